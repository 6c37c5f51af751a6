/-! ===== BEGIN words of one list among another's, by their places ===== -/
theorem goodIn_r {big : List Cond} (ws : List Cond) (ps : List Nat) (hp : ws = ps.filterMap (fun i => big[i]?)) (h : ws.all goodWord = true) : GoodIn big ws := by sorry
theorem goodIn_app {big a b : List Cond} (ha : GoodIn big a) (hb : GoodIn big b) : GoodIn big (a ++ b) := fun w h => (List.mem_append.mp h).elim (ha w) (hb w)
theorem goodIn_ca {big a b : List Cond} {c : Cond} (ha : GoodIn big (c :: a)) (hb : GoodIn big b) : GoodIn big (c :: (a ++ b)) := by sorry
theorem goodIn_sub {big ws : List Cond} (hm : ∀ w ∈ ws, w ∈ big) (h : ws.all goodWord = true) : GoodIn big ws := by sorry
/-! ===== END ===== -/

def RJx4a65c : String := "java/util/ArrayList"
def TJx4a65c : u_T := fun k => match k with
  | 0 => ("java/util/AbstractList", "modCount", "I", false)
  | 1 => ("java/util/ArrayList", "elementData", "[Ljava/lang/Object;", false)
  | _ => ("java/util/ArrayList", "size", "I", false)
def tyJx4a65c : Nat → FieldType := fun k => match k with
  | 0 => .int
  | 1 => .array (.object "java/lang/Object")
  | _ => .int
abbrev wsJx4a65c0 : List Cond := u_ws RJx4a65c TJx4a65c 3
theorem nmJx4a65c : ∀ a, a < 3 → ∀ b, b < 3 → a ≠ b → (TJx4a65c a).2.1 ≠ (TJx4a65c b).2.1 := by sorry
theorem tyJx4a65c_ok : ∀ k, k < 3 → parseFieldDescriptor (TJx4a65c k).2.2.1 = some (tyJx4a65c k) := by sorry
def RX0 : String := "PlainJava$Code"
def TX0 : u_T := fun k => match k with
  | 0 => ("PlainJava$Code", "order", "[I", true)
  | 1 => ("PlainJava$Code", "target", "[I", true)
  | 2 => ("PlainJava$Code", "exp", "[LPlainJava$Exp;", true)
  | 3 => ("PlainJava$Code", "owner", "[LPlainJava$Statement;", true)
  | 4 => ("PlainJava$Code", "size", "I", false)
  | 5 => ("PlainJava$Code", "program", "LPlainJava$Program;", false)
  | _ => ("PlainJava$Code", "current", "LPlainJava$Statement;", false)
def tyX0 : Nat → FieldType := fun k => match k with
  | 0 => .array .int
  | 1 => .array .int
  | 2 => .array (.object "PlainJava$Exp")
  | 3 => .array (.object "PlainJava$Statement")
  | 4 => .int
  | 5 => .object "PlainJava$Program"
  | _ => .object "PlainJava$Statement"
abbrev wsX00 : List Cond := u_ws RX0 TX0 7
theorem nmX0 : ∀ a, a < 7 → ∀ b, b < 7 → a ≠ b → (TX0 a).2.1 ≠ (TX0 b).2.1 := by sorry
theorem tyX0_ok : ∀ k, k < 7 → parseFieldDescriptor (TX0 k).2.2.1 = some (tyX0 k) := by sorry
def RX1 : String := "PlainJava$Exp"
def TX1 : u_T := fun k => match k with
  | 0 => ("PlainJava$Exp", "kind", "I", true)
  | 1 => ("PlainJava$Exp", "sign", "I", true)
  | 2 => ("PlainJava$Exp", "first", "I", true)
  | 3 => ("PlainJava$Exp", "start", "I", true)
  | 4 => ("PlainJava$Exp", "last", "I", false)
  | 5 => ("PlainJava$Exp", "number", "I", false)
  | 6 => ("PlainJava$Exp", "name", "I", false)
  | 7 => ("PlainJava$Exp", "link", "I", false)
  | 8 => ("PlainJava$Exp", "type", "I", false)
  | 9 => ("PlainJava$Exp", "work", "I", false)
  | 10 => ("PlainJava$Exp", "isConstant", "Z", false)
  | 11 => ("PlainJava$Exp", "value", "J", false)
  | 12 => ("PlainJava$Exp", "a", "LPlainJava$Exp;", false)
  | 13 => ("PlainJava$Exp", "b", "LPlainJava$Exp;", false)
  | 14 => ("PlainJava$Exp", "c", "LPlainJava$Exp;", false)
  | 15 => ("PlainJava$Exp", "next", "LPlainJava$Exp;", false)
  | 16 => ("PlainJava$Exp", "mark", "LPlainJava$Exp;", false)
  | _ => ("PlainJava$Exp", "address", "I", false)
def tyX1 : Nat → FieldType := fun k => match k with
  | 0 => .int
  | 1 => .int
  | 2 => .int
  | 3 => .int
  | 4 => .int
  | 5 => .int
  | 6 => .int
  | 7 => .int
  | 8 => .int
  | 9 => .int
  | 10 => .boolean
  | 11 => .long
  | 12 => .object "PlainJava$Exp"
  | 13 => .object "PlainJava$Exp"
  | 14 => .object "PlainJava$Exp"
  | 15 => .object "PlainJava$Exp"
  | 16 => .object "PlainJava$Exp"
  | _ => .int
abbrev wsX10 : List Cond := u_ws RX1 TX1 18
theorem nmX1 : ∀ a, a < 18 → ∀ b, b < 18 → a ≠ b → (TX1 a).2.1 ≠ (TX1 b).2.1 := by sorry
theorem tyX1_ok : ∀ k, k < 18 → parseFieldDescriptor (TX1 k).2.2.1 = some (tyX1 k) := by sorry
def RX2 : String := "PlainJava$Flow"
def TX2 : u_T := fun k => match k with
  | 0 => ("PlainJava$Flow", "program", "LPlainJava$Program;", false)
  | 1 => ("PlainJava$Flow", "whenTrue", "J", false)
  | 2 => ("PlainJava$Flow", "whenFalse", "J", false)
  | 3 => ("PlainJava$Flow", "aside", "[J", true)
  | _ => ("PlainJava$Flow", "asideCount", "I", false)
def tyX2 : Nat → FieldType := fun k => match k with
  | 0 => .object "PlainJava$Program"
  | 1 => .long
  | 2 => .long
  | 3 => .array .long
  | _ => .int
abbrev wsX20 : List Cond := u_ws RX2 TX2 5
theorem nmX2 : ∀ a, a < 5 → ∀ b, b < 5 → a ≠ b → (TX2 a).2.1 ≠ (TX2 b).2.1 := by sorry
theorem tyX2_ok : ∀ k, k < 5 → parseFieldDescriptor (TX2 k).2.2.1 = some (tyX2 k) := by sorry
def RX3 : String := "PlainJava$Judge"
def TX3 : u_T := fun k => match k with
  | 0 => ("PlainJava$Judge", "flow", "LPlainJava$Flow;", true)
  | _ => ("PlainJava$Judge", "program", "LPlainJava$Program;", false)
def tyX3 : Nat → FieldType := fun k => match k with
  | 0 => .object "PlainJava$Flow"
  | _ => .object "PlainJava$Program"
abbrev wsX30 : List Cond := u_ws RX3 TX3 2
theorem nmX3 : ∀ a, a < 2 → ∀ b, b < 2 → a ≠ b → (TX3 a).2.1 ≠ (TX3 b).2.1 := by sorry
theorem tyX3_ok : ∀ k, k < 2 → parseFieldDescriptor (TX3 k).2.2.1 = some (tyX3 k) := by sorry
def RX4 : String := "PlainJava$Machine"
def TX4 : u_T := fun k => match k with
  | 0 => ("PlainJava$Machine", "values", "[J", true)
  | 1 => ("PlainJava$Machine", "stack", "[J", true)
  | 2 => ("PlainJava$Machine", "floors", "[I", true)
  | 3 => ("PlainJava$Machine", "returns", "[I", true)
  | 4 => ("PlainJava$Machine", "ways", "[I", true)
  | 5 => ("PlainJava$Machine", "carried", "[J", true)
  | 6 => ("PlainJava$Machine", "goals", "[LPlainJava$Statement;", true)
  | 7 => ("PlainJava$Machine", "numbers", "[J", true)
  | 8 => ("PlainJava$Machine", "code", "LPlainJava$Code;", true)
  | 9 => ("PlainJava$Machine", "inputs", "[I", false)
  | 10 => ("PlainJava$Machine", "inputCount", "I", false)
  | 11 => ("PlainJava$Machine", "at", "I", false)
  | 12 => ("PlainJava$Machine", "top", "I", false)
  | 13 => ("PlainJava$Machine", "calls", "I", false)
  | 14 => ("PlainJava$Machine", "limit", "I", false)
  | 15 => ("PlainJava$Machine", "steps", "I", false)
  | 16 => ("PlainJava$Machine", "told", "I", false)
  | 17 => ("PlainJava$Machine", "taken", "I", false)
  | 18 => ("PlainJava$Machine", "latest", "I", false)
  | 19 => ("PlainJava$Machine", "outcome", "I", false)
  | _ => ("PlainJava$Machine", "result", "J", false)
def tyX4 : Nat → FieldType := fun k => match k with
  | 0 => .array .long
  | 1 => .array .long
  | 2 => .array .int
  | 3 => .array .int
  | 4 => .array .int
  | 5 => .array .long
  | 6 => .array (.object "PlainJava$Statement")
  | 7 => .array .long
  | 8 => .object "PlainJava$Code"
  | 9 => .array .int
  | 10 => .int
  | 11 => .int
  | 12 => .int
  | 13 => .int
  | 14 => .int
  | 15 => .int
  | 16 => .int
  | 17 => .int
  | 18 => .int
  | 19 => .int
  | _ => .long
abbrev wsX40 : List Cond := u_ws RX4 TX4 21
theorem nmX4 : ∀ a, a < 21 → ∀ b, b < 21 → a ≠ b → (TX4 a).2.1 ≠ (TX4 b).2.1 := by sorry
theorem tyX4_ok : ∀ k, k < 21 → parseFieldDescriptor (TX4 k).2.2.1 = some (tyX4 k) := by sorry
def RX5 : String := "PlainJava$Method"
def TX5 : u_T := fun k => match k with
  | 0 => ("PlainJava$Method", "name", "I", true)
  | 1 => ("PlainJava$Method", "key", "J", true)
  | 2 => ("PlainJava$Method", "type", "I", true)
  | 3 => ("PlainJava$Method", "paramTypes", "[I", true)
  | 4 => ("PlainJava$Method", "firstVariable", "I", true)
  | 5 => ("PlainJava$Method", "params", "I", false)
  | _ => ("PlainJava$Method", "body", "LPlainJava$Statement;", false)
def tyX5 : Nat → FieldType := fun k => match k with
  | 0 => .int
  | 1 => .long
  | 2 => .int
  | 3 => .array .int
  | 4 => .int
  | 5 => .int
  | _ => .object "PlainJava$Statement"
abbrev wsX50 : List Cond := u_ws RX5 TX5 7
theorem nmX5 : ∀ a, a < 7 → ∀ b, b < 7 → a ≠ b → (TX5 a).2.1 ≠ (TX5 b).2.1 := by sorry
theorem tyX5_ok : ∀ k, k < 7 → parseFieldDescriptor (TX5 k).2.2.1 = some (tyX5 k) := by sorry
def RX6 : String := "PlainJava$Program"
def TX6 : u_T := fun k => match k with
  | 0 => ("PlainJava$Program", "tokens", "LPlainJava$Tokens;", true)
  | 1 => ("PlainJava$Program", "methods", "Ljava/util/ArrayList;", true)
  | 2 => ("PlainJava$Program", "variables", "Ljava/util/ArrayList;", true)
  | 3 => ("PlainJava$Program", "exps", "Ljava/util/ArrayList;", true)
  | 4 => ("PlainJava$Program", "statements", "Ljava/util/ArrayList;", true)
  | 5 => ("PlainJava$Program", "out", "LPlainJava$Method;", true)
  | 6 => ("PlainJava$Program", "in", "LPlainJava$Method;", true)
  | 7 => ("PlainJava$Program", "error", "I", false)
  | _ => ("PlainJava$Program", "errorPlace", "I", false)
def tyX6 : Nat → FieldType := fun k => match k with
  | 0 => .object "PlainJava$Tokens"
  | 1 => .object "java/util/ArrayList"
  | 2 => .object "java/util/ArrayList"
  | 3 => .object "java/util/ArrayList"
  | 4 => .object "java/util/ArrayList"
  | 5 => .object "PlainJava$Method"
  | 6 => .object "PlainJava$Method"
  | 7 => .int
  | _ => .int
abbrev wsX60 : List Cond := u_ws RX6 TX6 9
theorem nmX6 : ∀ a, a < 9 → ∀ b, b < 9 → a ≠ b → (TX6 a).2.1 ≠ (TX6 b).2.1 := by sorry
theorem tyX6_ok : ∀ k, k < 9 → parseFieldDescriptor (TX6 k).2.2.1 = some (tyX6 k) := by sorry
def RX7 : String := "PlainJava$Reader"
def TX7 : u_T := fun k => match k with
  | 0 => ("PlainJava$Reader", "program", "LPlainJava$Program;", false)
  | 1 => ("PlainJava$Reader", "tokens", "LPlainJava$Tokens;", false)
  | 2 => ("PlainJava$Reader", "at", "I", false)
  | 3 => ("PlainJava$Reader", "fault", "I", false)
  | 4 => ("PlainJava$Reader", "place", "I", false)
  | 5 => ("PlainJava$Reader", "known", "J", false)
  | _ => ("PlainJava$Reader", "around", "LPlainJava$Statement;", false)
def tyX7 : Nat → FieldType := fun k => match k with
  | 0 => .object "PlainJava$Program"
  | 1 => .object "PlainJava$Tokens"
  | 2 => .int
  | 3 => .int
  | 4 => .int
  | 5 => .long
  | _ => .object "PlainJava$Statement"
abbrev wsX70 : List Cond := u_ws RX7 TX7 7
theorem nmX7 : ∀ a, a < 7 → ∀ b, b < 7 → a ≠ b → (TX7 a).2.1 ≠ (TX7 b).2.1 := by sorry
theorem tyX7_ok : ∀ k, k < 7 → parseFieldDescriptor (TX7 k).2.2.1 = some (tyX7 k) := by sorry
def RX8 : String := "PlainJava$Statement"
def TX8 : u_T := fun k => match k with
  | 0 => ("PlainJava$Statement", "kind", "I", true)
  | 1 => ("PlainJava$Statement", "first", "I", true)
  | 2 => ("PlainJava$Statement", "level", "I", true)
  | 3 => ("PlainJava$Statement", "parent", "LPlainJava$Statement;", true)
  | 4 => ("PlainJava$Statement", "known", "J", true)
  | 5 => ("PlainJava$Statement", "next", "LPlainJava$Statement;", false)
  | 6 => ("PlainJava$Statement", "body", "LPlainJava$Statement;", false)
  | 7 => ("PlainJava$Statement", "other", "LPlainJava$Statement;", false)
  | 8 => ("PlainJava$Statement", "last", "LPlainJava$Statement;", false)
  | 9 => ("PlainJava$Statement", "exp", "LPlainJava$Exp;", false)
  | 10 => ("PlainJava$Statement", "link", "I", false)
  | 11 => ("PlainJava$Statement", "target", "LPlainJava$Statement;", false)
  | 12 => ("PlainJava$Statement", "ends", "Z", false)
  | 13 => ("PlainJava$Statement", "broken", "Z", false)
  | 14 => ("PlainJava$Statement", "continued", "Z", false)
  | 15 => ("PlainJava$Statement", "before", "J", false)
  | 16 => ("PlainJava$Statement", "behind", "J", false)
  | 17 => ("PlainJava$Statement", "breaks", "J", false)
  | 18 => ("PlainJava$Statement", "continues", "J", false)
  | 19 => ("PlainJava$Statement", "entry", "I", false)
  | _ => ("PlainJava$Statement", "exit", "I", false)
def tyX8 : Nat → FieldType := fun k => match k with
  | 0 => .int
  | 1 => .int
  | 2 => .int
  | 3 => .object "PlainJava$Statement"
  | 4 => .long
  | 5 => .object "PlainJava$Statement"
  | 6 => .object "PlainJava$Statement"
  | 7 => .object "PlainJava$Statement"
  | 8 => .object "PlainJava$Statement"
  | 9 => .object "PlainJava$Exp"
  | 10 => .int
  | 11 => .object "PlainJava$Statement"
  | 12 => .boolean
  | 13 => .boolean
  | 14 => .boolean
  | 15 => .long
  | 16 => .long
  | 17 => .long
  | 18 => .long
  | 19 => .int
  | _ => .int
abbrev wsX80 : List Cond := u_ws RX8 TX8 21
theorem nmX8 : ∀ a, a < 21 → ∀ b, b < 21 → a ≠ b → (TX8 a).2.1 ≠ (TX8 b).2.1 := by sorry
theorem tyX8_ok : ∀ k, k < 21 → parseFieldDescriptor (TX8 k).2.2.1 = some (tyX8 k) := by sorry
def RX9 : String := "PlainJava$Tokens"
def TX9 : u_T := fun k => match k with
  | 0 => ("PlainJava$Tokens", "place", "[I", true)
  | 1 => ("PlainJava$Tokens", "size", "[I", true)
  | 2 => ("PlainJava$Tokens", "code", "[I", true)
  | 3 => ("PlainJava$Tokens", "meaning", "[I", true)
  | 4 => ("PlainJava$Tokens", "worth", "[J", true)
  | 5 => ("PlainJava$Tokens", "count", "I", false)
  | 6 => ("PlainJava$Tokens", "words", "[J", true)
  | 7 => ("PlainJava$Tokens", "text", "[B", false)
  | _ => ("PlainJava$Tokens", "length", "I", false)
def tyX9 : Nat → FieldType := fun k => match k with
  | 0 => .array .int
  | 1 => .array .int
  | 2 => .array .int
  | 3 => .array .int
  | 4 => .array .long
  | 5 => .int
  | 6 => .array .long
  | 7 => .array .byte
  | _ => .int
abbrev wsX90 : List Cond := u_ws RX9 TX9 9
theorem nmX9 : ∀ a, a < 9 → ∀ b, b < 9 → a ≠ b → (TX9 a).2.1 ≠ (TX9 b).2.1 := by sorry
theorem tyX9_ok : ∀ k, k < 9 → parseFieldDescriptor (TX9 k).2.2.1 = some (tyX9 k) := by sorry
def RX10 : String := "PlainJava$Variable"
def TX10 : u_T := fun k => match k with
  | 0 => ("PlainJava$Variable", "name", "I", true)
  | 1 => ("PlainJava$Variable", "type", "I", true)
  | 2 => ("PlainJava$Variable", "isFinal", "Z", true)
  | 3 => ("PlainJava$Variable", "method", "I", true)
  | 4 => ("PlainJava$Variable", "clashes", "Z", false)
  | 5 => ("PlainJava$Variable", "isConstant", "Z", false)
  | _ => ("PlainJava$Variable", "value", "J", false)
def tyX10 : Nat → FieldType := fun k => match k with
  | 0 => .int
  | 1 => .int
  | 2 => .boolean
  | 3 => .int
  | 4 => .boolean
  | 5 => .boolean
  | _ => .long
abbrev wsX100 : List Cond := u_ws RX10 TX10 7
theorem nmX10 : ∀ a, a < 7 → ∀ b, b < 7 → a ≠ b → (TX10 a).2.1 ≠ (TX10 b).2.1 := by sorry
theorem tyX10_ok : ∀ k, k < 7 → parseFieldDescriptor (TX10 k).2.2.1 = some (tyX10 k) := by sorry
def RX11 : String := "PlainJava"
def TX11 : u_T := fun k => match k with
  | 0 => ("PlainJava", "tape", "[B", true)
  | 1 => ("PlainJava", "inputs", "[I", true)
  | 2 => ("PlainJava", "arguments", "[J", true)
  | 3 => ("PlainJava", "program", "LPlainJava$Program;", false)
  | 4 => ("PlainJava", "spare", "LPlainJava$Program;", false)
  | 5 => ("PlainJava", "reader", "LPlainJava$Reader;", true)
  | 6 => ("PlainJava", "judge", "LPlainJava$Judge;", true)
  | 7 => ("PlainJava", "code", "LPlainJava$Code;", true)
  | 8 => ("PlainJava", "machine", "LPlainJava$Machine;", true)
  | 9 => ("PlainJava", "length", "I", false)
  | 10 => ("PlainJava", "inputCount", "I", false)
  | 11 => ("PlainJava", "place", "I", false)
  | _ => ("PlainJava", "hasRun", "Z", false)
def tyX11 : Nat → FieldType := fun k => match k with
  | 0 => .array .byte
  | 1 => .array .int
  | 2 => .array .long
  | 3 => .object "PlainJava$Program"
  | 4 => .object "PlainJava$Program"
  | 5 => .object "PlainJava$Reader"
  | 6 => .object "PlainJava$Judge"
  | 7 => .object "PlainJava$Code"
  | 8 => .object "PlainJava$Machine"
  | 9 => .int
  | 10 => .int
  | 11 => .int
  | _ => .boolean
abbrev wsX110 : List Cond := u_ws RX11 TX11 13
theorem nmX11 : ∀ a, a < 13 → ∀ b, b < 13 → a ≠ b → (TX11 a).2.1 ≠ (TX11 b).2.1 := by sorry
theorem tyX11_ok : ∀ k, k < 13 → parseFieldDescriptor (TX11 k).2.2.1 = some (tyX11 k) := by sorry
def RX12 : String := "PlainJavaModel"
def TX12 : u_T := fun k => match k with
  | 0 => ("PlainJavaModel", "tape", "[I", true)
  | 1 => ("PlainJavaModel", "taped", "I", false)
  | 2 => ("PlainJavaModel", "count", "I", false)
  | 3 => ("PlainJavaModel", "tKind", "[I", true)
  | 4 => ("PlainJavaModel", "tAt", "[I", true)
  | 5 => ("PlainJavaModel", "tSize", "[I", true)
  | 6 => ("PlainJavaModel", "tWhat", "[I", true)
  | 7 => ("PlainJavaModel", "tHigh", "[J", true)
  | 8 => ("PlainJavaModel", "tLow", "[I", true)
  | 9 => ("PlainJavaModel", "tValue", "[J", true)
  | 10 => ("PlainJavaModel", "tLong", "[Z", true)
  | 11 => ("PlainJavaModel", "tGreat", "[I", true)
  | 12 => ("PlainJavaModel", "end", "I", false)
  | 13 => ("PlainJavaModel", "scan", "I", false)
  | 14 => ("PlainJavaModel", "pos", "I", false)
  | 15 => ("PlainJavaModel", "fault", "I", false)
  | 16 => ("PlainJavaModel", "faultAt", "I", false)
  | 17 => ("PlainJavaModel", "deep", "I", false)
  | 18 => ("PlainJavaModel", "codes", "I", false)
  | 19 => ("PlainJavaModel", "cOp", "[I", true)
  | 20 => ("PlainJavaModel", "cA", "[I", true)
  | 21 => ("PlainJavaModel", "cB", "[I", true)
  | 22 => ("PlainJavaModel", "cTok", "[I", true)
  | 23 => ("PlainJavaModel", "cFirst", "[I", true)
  | 24 => ("PlainJavaModel", "cLast", "[I", true)
  | 25 => ("PlainJavaModel", "oSort", "[I", true)
  | 26 => ("PlainJavaModel", "oSign", "[I", true)
  | 27 => ("PlainJavaModel", "oToken", "[I", true)
  | 28 => ("PlainJavaModel", "oArgs", "[I", true)
  | 29 => ("PlainJavaModel", "opens", "I", false)
  | 30 => ("PlainJavaModel", "vFirst", "[I", true)
  | 31 => ("PlainJavaModel", "wholes", "I", false)
  | 32 => ("PlainJavaModel", "lastToken", "I", false)
  | 33 => ("PlainJavaModel", "rootOp", "I", false)
  | 34 => ("PlainJavaModel", "waiting", "Z", false)
  | 35 => ("PlainJavaModel", "beginsNext", "Z", false)
  | 36 => ("PlainJavaModel", "methods", "I", false)
  | 37 => ("PlainJavaModel", "mToken", "[I", true)
  | 38 => ("PlainJavaModel", "mType", "[I", true)
  | 39 => ("PlainJavaModel", "mParams", "[I", true)
  | 40 => ("PlainJavaModel", "mFirst", "[I", true)
  | 41 => ("PlainJavaModel", "mCode", "[I", true)
  | 42 => ("PlainJavaModel", "variables", "I", false)
  | 43 => ("PlainJavaModel", "vToken", "[I", true)
  | 44 => ("PlainJavaModel", "vType", "[I", true)
  | 45 => ("PlainJavaModel", "vFinal", "[Z", true)
  | 46 => ("PlainJavaModel", "vMethod", "[I", true)
  | 47 => ("PlainJavaModel", "vFrame", "[I", true)
  | 48 => ("PlainJavaModel", "vEnd", "[I", true)
  | 49 => ("PlainJavaModel", "things", "I", false)
  | 50 => ("PlainJavaModel", "kSort", "[I", true)
  | 51 => ("PlainJavaModel", "kFrom", "[I", true)
  | 52 => ("PlainJavaModel", "kCond", "[I", true)
  | 53 => ("PlainJavaModel", "kUpdate", "[I", true)
  | 54 => ("PlainJavaModel", "kBody", "[I", true)
  | 55 => ("PlainJavaModel", "kEnd", "[I", true)
  | 56 => ("PlainJavaModel", "kElse", "[I", true)
  | 57 => ("PlainJavaModel", "kCatch", "[I", true)
  | 58 => ("PlainJavaModel", "kFinally", "[I", true)
  | 59 => ("PlainJavaModel", "kDefault", "[I", true)
  | 60 => ("PlainJavaModel", "kToken", "[I", true)
  | 61 => ("PlainJavaModel", "kVariable", "[I", true)
  | 62 => ("PlainJavaModel", "frames", "I", false)
  | 63 => ("PlainJavaModel", "fSort", "[I", true)
  | 64 => ("PlainJavaModel", "fThing", "[I", true)
  | 65 => ("PlainJavaModel", "fStep", "[I", true)
  | 66 => ("PlainJavaModel", "error", "I", false)
  | 67 => ("PlainJavaModel", "errorAt", "I", false)
  | 68 => ("PlainJavaModel", "judged", "Z", false)
  | 69 => ("PlainJavaModel", "lies", "I", false)
  | 70 => ("PlainJavaModel", "sType", "[I", true)
  | 71 => ("PlainJavaModel", "sSure", "[Z", true)
  | 72 => ("PlainJavaModel", "sValue", "[J", true)
  | 73 => ("PlainJavaModel", "sFirst", "[I", true)
  | 74 => ("PlainJavaModel", "exps0", "I", false)
  | 75 => ("PlainJavaModel", "xFirst", "[I", true)
  | 76 => ("PlainJavaModel", "xLast", "[I", true)
  | 77 => ("PlainJavaModel", "xType", "[I", true)
  | 78 => ("PlainJavaModel", "xSure", "[Z", true)
  | 79 => ("PlainJavaModel", "xValue", "[J", true)
  | 80 => ("PlainJavaModel", "tMean", "[I", true)
  | 81 => ("PlainJavaModel", "cType", "[I", true)
  | 82 => ("PlainJavaModel", "cWork", "[I", true)
  | 83 => ("PlainJavaModel", "cWhat", "[I", true)
  | 84 => ("PlainJavaModel", "cSure", "[Z", true)
  | 85 => ("PlainJavaModel", "cValue", "[J", true)
  | 86 => ("PlainJavaModel", "vSure", "[Z", true)
  | 87 => ("PlainJavaModel", "vValue", "[J", true)
  | 88 => ("PlainJavaModel", "kType", "[I", true)
  | 89 => ("PlainJavaModel", "inMethod", "I", false)
  | 90 => ("PlainJavaModel", "labels", "[I", true)
  | 91 => ("PlainJavaModel", "labelCount", "I", false)
  | 92 => ("PlainJavaModel", "alive", "Z", false)
  | 93 => ("PlainJavaModel", "whenTrue", "J", false)
  | 94 => ("PlainJavaModel", "whenFalse", "J", false)
  | 95 => ("PlainJavaModel", "kAlive", "[Z", true)
  | 96 => ("PlainJavaModel", "kBits", "[J", true)
  | 97 => ("PlainJavaModel", "kOther", "[Z", true)
  | 98 => ("PlainJavaModel", "kOtherBits", "[J", true)
  | 99 => ("PlainJavaModel", "kBefore", "[J", true)
  | 100 => ("PlainJavaModel", "opened", "I", false)
  | 101 => ("PlainJavaModel", "openTrue", "[J", true)
  | 102 => ("PlainJavaModel", "openFalse", "[J", true)
  | 103 => ("PlainJavaModel", "jumps", "I", false)
  | 104 => ("PlainJavaModel", "jTo", "[I", true)
  | 105 => ("PlainJavaModel", "jOn", "[Z", true)
  | 106 => ("PlainJavaModel", "jFrom", "[I", true)
  | 107 => ("PlainJavaModel", "jAlive", "[Z", true)
  | 108 => ("PlainJavaModel", "jBits", "[J", true)
  | 109 => ("PlainJavaModel", "isS", "[Z", true)
  | 110 => ("PlainJavaModel", "sBits", "[J", true)
  | 111 => ("PlainJavaModel", "sEnds", "[Z", true)
  | 112 => ("PlainJavaModel", "late", "I", false)
  | 113 => ("PlainJavaModel", "lateAt", "I", false)
  | 114 => ("PlainJavaModel", "unset", "I", false)
  | 115 => ("PlainJavaModel", "unsetAt", "I", false)
  | 116 => ("PlainJavaModel", "comes", "Z", false)
  | 117 => ("PlainJavaModel", "deadStep", "I", false)
  | 118 => ("PlainJavaModel", "kept", "[I", true)
  | 119 => ("PlainJavaModel", "keptSize", "I", false)
  | 120 => ("PlainJavaModel", "placed", "I", false)
  | 121 => ("PlainJavaModel", "ran", "Z", false)
  | 122 => ("PlainJavaModel", "input", "[I", true)
  | 123 => ("PlainJavaModel", "inputs", "I", false)
  | 124 => ("PlainJavaModel", "argument", "[J", true)
  | 125 => ("PlainJavaModel", "cLink", "[I", true)
  | 126 => ("PlainJavaModel", "linked", "[I", true)
  | 127 => ("PlainJavaModel", "pile", "[J", true)
  | 128 => ("PlainJavaModel", "height", "I", false)
  | 129 => ("PlainJavaModel", "calls", "I", false)
  | 130 => ("PlainJavaModel", "own", "[J", true)
  | 131 => ("PlainJavaModel", "backTo", "[I", true)
  | 132 => ("PlainJavaModel", "callOf", "[I", true)
  | 133 => ("PlainJavaModel", "tries", "I", false)
  | 134 => ("PlainJavaModel", "yThing", "[I", true)
  | 135 => ("PlainJavaModel", "yCall", "[I", true)
  | 136 => ("PlainJavaModel", "yHeight", "[I", true)
  | 137 => ("PlainJavaModel", "yState", "[I", true)
  | 138 => ("PlainJavaModel", "yKind", "[I", true)
  | 139 => ("PlainJavaModel", "yTo", "[I", true)
  | 140 => ("PlainJavaModel", "yValue", "[J", true)
  | 141 => ("PlainJavaModel", "pc", "I", false)
  | 142 => ("PlainJavaModel", "stopped", "I", false)
  | 143 => ("PlainJavaModel", "ranValue", "J", false)
  | 144 => ("PlainJavaModel", "steps", "I", false)
  | 145 => ("PlainJavaModel", "most", "I", false)
  | 146 => ("PlainJavaModel", "taken", "I", false)
  | 147 => ("PlainJavaModel", "latest", "I", false)
  | 148 => ("PlainJavaModel", "tolds", "I", false)
  | _ => ("PlainJavaModel", "toldNumber", "[J", true)
def tyX12 : Nat → FieldType := fun k => match k with
  | 0 => .array .int
  | 1 => .int
  | 2 => .int
  | 3 => .array .int
  | 4 => .array .int
  | 5 => .array .int
  | 6 => .array .int
  | 7 => .array .long
  | 8 => .array .int
  | 9 => .array .long
  | 10 => .array .boolean
  | 11 => .array .int
  | 12 => .int
  | 13 => .int
  | 14 => .int
  | 15 => .int
  | 16 => .int
  | 17 => .int
  | 18 => .int
  | 19 => .array .int
  | 20 => .array .int
  | 21 => .array .int
  | 22 => .array .int
  | 23 => .array .int
  | 24 => .array .int
  | 25 => .array .int
  | 26 => .array .int
  | 27 => .array .int
  | 28 => .array .int
  | 29 => .int
  | 30 => .array .int
  | 31 => .int
  | 32 => .int
  | 33 => .int
  | 34 => .boolean
  | 35 => .boolean
  | 36 => .int
  | 37 => .array .int
  | 38 => .array .int
  | 39 => .array .int
  | 40 => .array .int
  | 41 => .array .int
  | 42 => .int
  | 43 => .array .int
  | 44 => .array .int
  | 45 => .array .boolean
  | 46 => .array .int
  | 47 => .array .int
  | 48 => .array .int
  | 49 => .int
  | 50 => .array .int
  | 51 => .array .int
  | 52 => .array .int
  | 53 => .array .int
  | 54 => .array .int
  | 55 => .array .int
  | 56 => .array .int
  | 57 => .array .int
  | 58 => .array .int
  | 59 => .array .int
  | 60 => .array .int
  | 61 => .array .int
  | 62 => .int
  | 63 => .array .int
  | 64 => .array .int
  | 65 => .array .int
  | 66 => .int
  | 67 => .int
  | 68 => .boolean
  | 69 => .int
  | 70 => .array .int
  | 71 => .array .boolean
  | 72 => .array .long
  | 73 => .array .int
  | 74 => .int
  | 75 => .array .int
  | 76 => .array .int
  | 77 => .array .int
  | 78 => .array .boolean
  | 79 => .array .long
  | 80 => .array .int
  | 81 => .array .int
  | 82 => .array .int
  | 83 => .array .int
  | 84 => .array .boolean
  | 85 => .array .long
  | 86 => .array .boolean
  | 87 => .array .long
  | 88 => .array .int
  | 89 => .int
  | 90 => .array .int
  | 91 => .int
  | 92 => .boolean
  | 93 => .long
  | 94 => .long
  | 95 => .array .boolean
  | 96 => .array .long
  | 97 => .array .boolean
  | 98 => .array .long
  | 99 => .array .long
  | 100 => .int
  | 101 => .array .long
  | 102 => .array .long
  | 103 => .int
  | 104 => .array .int
  | 105 => .array .boolean
  | 106 => .array .int
  | 107 => .array .boolean
  | 108 => .array .long
  | 109 => .array .boolean
  | 110 => .array .long
  | 111 => .array .boolean
  | 112 => .int
  | 113 => .int
  | 114 => .int
  | 115 => .int
  | 116 => .boolean
  | 117 => .int
  | 118 => .array .int
  | 119 => .int
  | 120 => .int
  | 121 => .boolean
  | 122 => .array .int
  | 123 => .int
  | 124 => .array .long
  | 125 => .array .int
  | 126 => .array .int
  | 127 => .array .long
  | 128 => .int
  | 129 => .int
  | 130 => .array .long
  | 131 => .array .int
  | 132 => .array .int
  | 133 => .int
  | 134 => .array .int
  | 135 => .array .int
  | 136 => .array .int
  | 137 => .array .int
  | 138 => .array .int
  | 139 => .array .int
  | 140 => .array .long
  | 141 => .int
  | 142 => .int
  | 143 => .long
  | 144 => .int
  | 145 => .int
  | 146 => .int
  | 147 => .int
  | 148 => .int
  | _ => .array .long
abbrev wsX120 : List Cond := u_ws RX12 TX12 150
theorem nmX12 : ∀ a, a < 150 → ∀ b, b < 150 → a ≠ b → (TX12 a).2.1 ≠ (TX12 b).2.1 := by sorry
theorem tyX12_ok : ∀ k, k < 150 → parseFieldDescriptor (TX12 k).2.2.1 = some (tyX12 k) := by sorry
abbrev vwCl : List vw_C := [(RJx4a65c, TJx4a65c, 3), (RX0, TX0, 7), (RX1, TX1, 18), (RX2, TX2, 5), (RX3, TX3, 2), (RX4, TX4, 21), (RX5, TX5, 7), (RX6, TX6, 9), (RX7, TX7, 7), (RX8, TX8, 21), (RX9, TX9, 9), (RX10, TX10, 7), (RX11, TX11, 13), (RX12, TX12, 150)]
abbrev cX12_feed : ByteArray := prog_14_method_2_code
def yX12_feed : MethodName := ⟨RX12, "feed", "(IIIII)I"⟩
abbrev cX12_lay : ByteArray := prog_14_method_3_code
def yX12_lay : MethodName := ⟨RX12, "lay", "(I)V"⟩
abbrev cX12_cut : ByteArray := prog_14_method_4_code
def yX12_cut : MethodName := ⟨RX12, "cut", "(I)I"⟩
abbrev cX12_at : ByteArray := prog_14_method_5_code
def yX12_at : MethodName := ⟨RX12, "at", "(I)I"⟩
abbrev cX12_isLetter : ByteArray := prog_14_method_6_code
def yX12_isLetter : MethodName := ⟨RX12, "isLetter", "(I)Z"⟩
abbrev cX12_isDigit : ByteArray := prog_14_method_7_code
def yX12_isDigit : MethodName := ⟨RX12, "isDigit", "(I)Z"⟩
abbrev cX12_lexer : ByteArray := prog_14_method_8_code
def yX12_lexer : MethodName := ⟨RX12, "lexer", "()V"⟩
abbrev cX12_word : ByteArray := prog_14_method_9_code
def yX12_word : MethodName := ⟨RX12, "word", "(I)V"⟩
abbrev cX12_wordOf : ByteArray := prog_14_method_10_code
def yX12_wordOf : MethodName := ⟨RX12, "wordOf", "(J)I"⟩
abbrev cX12_number : ByteArray := prog_14_method_11_code
def yX12_number : MethodName := ⟨RX12, "number", "(I)V"⟩
abbrev cX12_character : ByteArray := prog_14_method_12_code
def yX12_character : MethodName := ⟨RX12, "character", "(I)V"⟩
abbrev cX12_sign : ByteArray := prog_14_method_13_code
def yX12_sign : MethodName := ⟨RX12, "sign", "(I)V"⟩
abbrev cX12_wrong : ByteArray := prog_14_method_14_code
def yX12_wrong : MethodName := ⟨RX12, "wrong", "(II)Z"⟩
abbrev cX12_cant : ByteArray := prog_14_method_15_code
def yX12_cant : MethodName := ⟨RX12, "cant", "()Z"⟩
abbrev cX12_isSign : ByteArray := prog_14_method_16_code
def yX12_isSign : MethodName := ⟨RX12, "isSign", "(I)Z"⟩
abbrev cX12_isWord : ByteArray := prog_14_method_17_code
def yX12_isWord : MethodName := ⟨RX12, "isWord", "(I)Z"⟩
abbrev cX12_isSignAt : ByteArray := prog_14_method_18_code
def yX12_isSignAt : MethodName := ⟨RX12, "isSignAt", "(II)Z"⟩
abbrev cX12_take : ByteArray := prog_14_method_19_code
def yX12_take : MethodName := ⟨RX12, "take", "()Z"⟩
abbrev cX12_want : ByteArray := prog_14_method_20_code
def yX12_want : MethodName := ⟨RX12, "want", "(I)Z"⟩
abbrev cX12_enter : ByteArray := prog_14_method_21_code
def yX12_enter : MethodName := ⟨RX12, "enter", "()Z"⟩
abbrev cX12_emit : ByteArray := prog_14_method_22_code
def yX12_emit : MethodName := ⟨RX12, "emit", "(III)I"⟩
abbrev cX12_emitExp : ByteArray := prog_14_method_23_code
def yX12_emitExp : MethodName := ⟨RX12, "emitExp", "(IIIII)I"⟩
abbrev cX12_strength : ByteArray := prog_14_method_24_code
def yX12_strength : MethodName := ⟨RX12, "strength", "(I)I"⟩
abbrev cX12_isType : ByteArray := prog_14_method_25_code
def yX12_isType : MethodName := ⟨RX12, "isType", "(I)Z"⟩
abbrev cX12_isSetAt : ByteArray := prog_14_method_26_code
def yX12_isSetAt : MethodName := ⟨RX12, "isSetAt", "(I)Z"⟩
abbrev cX12_push : ByteArray := prog_14_method_27_code
def yX12_push : MethodName := ⟨RX12, "push", "(III)Z"⟩
abbrev cX12_whole : ByteArray := prog_14_method_28_code
def yX12_whole : MethodName := ⟨RX12, "whole", "(I)V"⟩
abbrev cX12_expression : ByteArray := prog_14_method_29_code
def yX12_expression : MethodName := ⟨RX12, "expression", "()Z"⟩
abbrev cX12_wait : ByteArray := prog_14_method_30_code
def yX12_wait : MethodName := ⟨RX12, "wait", "(Z)Z"⟩
abbrev cX12_operand : ByteArray := prog_14_method_31_code
def yX12_operand : MethodName := ⟨RX12, "operand", "(Z)Z"⟩
abbrev cX12_named : ByteArray := prog_14_method_32_code
def yX12_named : MethodName := ⟨RX12, "named", "(Z)Z"⟩
abbrev cX12_closeCall : ByteArray := prog_14_method_33_code
def yX12_closeCall : MethodName := ⟨RX12, "closeCall", "()Z"⟩
abbrev cX12_reduce : ByteArray := prog_14_method_34_code
def yX12_reduce : MethodName := ⟨RX12, "reduce", "(I)V"⟩
abbrev cX12_complete : ByteArray := prog_14_method_35_code
def yX12_complete : MethodName := ⟨RX12, "complete", "()V"⟩
abbrev cX12_behind : ByteArray := prog_14_method_36_code
def yX12_behind : MethodName := ⟨RX12, "behind", "()Z"⟩
abbrev cX12_thing : ByteArray := prog_14_method_37_code
def yX12_thing : MethodName := ⟨RX12, "thing", "(II)I"⟩
abbrev cX12_open : ByteArray := prog_14_method_38_code
def yX12_open : MethodName := ⟨RX12, "open", "(III)Z"⟩
abbrev cX12_parse : ByteArray := prog_14_method_39_code
def yX12_parse : MethodName := ⟨RX12, "parse", "()Z"⟩
abbrev cX12_method : ByteArray := prog_14_method_40_code
def yX12_method : MethodName := ⟨RX12, "method", "()Z"⟩
abbrev cX12_param : ByteArray := prog_14_method_41_code
def yX12_param : MethodName := ⟨RX12, "param", "(II)Z"⟩
abbrev cX12_variable : ByteArray := prog_14_method_42_code
def yX12_variable : MethodName := ⟨RX12, "variable", "(IZI)Z"⟩
abbrev cX12_scope : ByteArray := prog_14_method_43_code
def yX12_scope : MethodName := ⟨RX12, "scope", "()I"⟩
abbrev cX12_leave : ByteArray := prog_14_method_44_code
def yX12_leave : MethodName := ⟨RX12, "leave", "(II)V"⟩
abbrev cX12_isRow : ByteArray := prog_14_method_45_code
def yX12_isRow : MethodName := ⟨RX12, "isRow", "(I)Z"⟩
abbrev cX12_piece : ByteArray := prog_14_method_46_code
def yX12_piece : MethodName := ⟨RX12, "piece", "()Z"⟩
abbrev cX12_grouped : ByteArray := prog_14_method_47_code
def yX12_grouped : MethodName := ⟨RX12, "grouped", "()Z"⟩
abbrev cX12_isTold : ByteArray := prog_14_method_48_code
def yX12_isTold : MethodName := ⟨RX12, "isTold", "()Z"⟩
abbrev cX12_told : ByteArray := prog_14_method_49_code
def yX12_told : MethodName := ⟨RX12, "told", "()Z"⟩
abbrev cX12_declaration : ByteArray := prog_14_method_50_code
def yX12_declaration : MethodName := ⟨RX12, "declaration", "(I)Z"⟩
abbrev cX12_statement : ByteArray := prog_14_method_51_code
def yX12_statement : MethodName := ⟨RX12, "statement", "()Z"⟩
abbrev cX12_plain : ByteArray := prog_14_method_52_code
def yX12_plain : MethodName := ⟨RX12, "plain", "()Z"⟩
abbrev cX12_pop : ByteArray := prog_14_method_53_code
def yX12_pop : MethodName := ⟨RX12, "pop", "()V"⟩
abbrev cX12_condition : ByteArray := prog_14_method_54_code
def yX12_condition : MethodName := ⟨RX12, "condition", "()Z"⟩
abbrev cX12_ifOf : ByteArray := prog_14_method_55_code
def yX12_ifOf : MethodName := ⟨RX12, "ifOf", "()Z"⟩
abbrev cX12_whileOf : ByteArray := prog_14_method_56_code
def yX12_whileOf : MethodName := ⟨RX12, "whileOf", "()Z"⟩
abbrev cX12_doOf : ByteArray := prog_14_method_57_code
def yX12_doOf : MethodName := ⟨RX12, "doOf", "()Z"⟩
abbrev cX12_exps : ByteArray := prog_14_method_58_code
def yX12_exps : MethodName := ⟨RX12, "exps", "()Z"⟩
abbrev cX12_forOf : ByteArray := prog_14_method_59_code
def yX12_forOf : MethodName := ⟨RX12, "forOf", "()Z"⟩
abbrev cX12_switchOf : ByteArray := prog_14_method_60_code
def yX12_switchOf : MethodName := ⟨RX12, "switchOf", "()Z"⟩
abbrev cX12_label : ByteArray := prog_14_method_61_code
def yX12_label : MethodName := ⟨RX12, "label", "()Z"⟩
abbrev cX12_closeSwitch : ByteArray := prog_14_method_62_code
def yX12_closeSwitch : MethodName := ⟨RX12, "closeSwitch", "()Z"⟩
abbrev cX12_closed : ByteArray := prog_14_method_63_code
def yX12_closed : MethodName := ⟨RX12, "closed", "(I)Z"⟩
abbrev cX12_jump : ByteArray := prog_14_method_64_code
def yX12_jump : MethodName := ⟨RX12, "jump", "()Z"⟩
abbrev cX12_sameName : ByteArray := prog_14_method_65_code
def yX12_sameName : MethodName := ⟨RX12, "sameName", "(II)Z"⟩
abbrev cX12_named_ : ByteArray := prog_14_method_66_code
def yX12_named_ : MethodName := ⟨RX12, "named", "(IZ)I"⟩
abbrev cX12_gives : ByteArray := prog_14_method_67_code
def yX12_gives : MethodName := ⟨RX12, "gives", "()Z"⟩
abbrev cX12_tryOf : ByteArray := prog_14_method_68_code
def yX12_tryOf : MethodName := ⟨RX12, "tryOf", "()Z"⟩
abbrev cX12_closeRow : ByteArray := prog_14_method_69_code
def yX12_closeRow : MethodName := ⟨RX12, "closeRow", "(I)Z"⟩
abbrev cX12_closeTry : ByteArray := prog_14_method_70_code
def yX12_closeTry : MethodName := ⟨RX12, "closeTry", "(III)Z"⟩
abbrev cX12_finished : ByteArray := prog_14_method_71_code
def yX12_finished : MethodName := ⟨RX12, "finished", "()Z"⟩
abbrev cX12_err : ByteArray := prog_14_method_72_code
def yX12_err : MethodName := ⟨RX12, "err", "(II)V"⟩
abbrev cX12_find : ByteArray := prog_14_method_73_code
def yX12_find : MethodName := ⟨RX12, "find", "(I)I"⟩
abbrev cX12_isNumber : ByteArray := prog_14_method_74_code
def yX12_isNumber : MethodName := ⟨RX12, "isNumber", "(I)Z"⟩
abbrev cX12_widens : ByteArray := prog_14_method_75_code
def yX12_widens : MethodName := ⟨RX12, "widens", "(II)Z"⟩
abbrev cX12_holdsValue : ByteArray := prog_14_method_76_code
def yX12_holdsValue : MethodName := ⟨RX12, "holdsValue", "(IJ)Z"⟩
abbrev cX12_fits : ByteArray := prog_14_method_77_code
def yX12_fits : MethodName := ⟨RX12, "fits", "(II)Z"⟩
abbrev cX12_cast : ByteArray := prog_14_method_78_code
def yX12_cast : MethodName := ⟨RX12, "cast", "(IJ)J"⟩
abbrev cX12_lie : ByteArray := prog_14_method_79_code
def yX12_lie : MethodName := ⟨RX12, "lie", "(IIZJ)V"⟩
abbrev cX12_none : ByteArray := prog_14_method_80_code
def yX12_none : MethodName := ⟨RX12, "none", "(I)V"⟩
abbrev cX12_isBad : ByteArray := prog_14_method_81_code
def yX12_isBad : MethodName := ⟨RX12, "isBad", "(I)Z"⟩
abbrev cX12_need : ByteArray := prog_14_method_82_code
def yX12_need : MethodName := ⟨RX12, "need", "(II)Z"⟩
abbrev cX12_wide : ByteArray := prog_14_method_83_code
def yX12_wide : MethodName := ⟨RX12, "wide", "(I)I"⟩
abbrev cX12_judgeAll : ByteArray := prog_14_method_84_code
def yX12_judgeAll : MethodName := ⟨RX12, "judgeAll", "()V"⟩
abbrev cX12_typeOfParam : ByteArray := prog_14_method_85_code
def yX12_typeOfParam : MethodName := ⟨RX12, "typeOfParam", "(II)I"⟩
abbrev cX12_paramsOf : ByteArray := prog_14_method_86_code
def yX12_paramsOf : MethodName := ⟨RX12, "paramsOf", "(I)I"⟩
abbrev cX12_resultOf : ByteArray := prog_14_method_87_code
def yX12_resultOf : MethodName := ⟨RX12, "resultOf", "(I)I"⟩
abbrev cX12_isNamed : ByteArray := prog_14_method_88_code
def yX12_isNamed : MethodName := ⟨RX12, "isNamed", "(II)Z"⟩
abbrev cX12_methodsTold : ByteArray := prog_14_method_89_code
def yX12_methodsTold : MethodName := ⟨RX12, "methodsTold", "()V"⟩
abbrev cX12_judgeExp : ByteArray := prog_14_method_90_code
def yX12_judgeExp : MethodName := ⟨RX12, "judgeExp", "(I)V"⟩
abbrev cX12_literal : ByteArray := prog_14_method_91_code
def yX12_literal : MethodName := ⟨RX12, "literal", "(II)V"⟩
abbrev cX12_step : ByteArray := prog_14_method_92_code
def yX12_step : MethodName := ⟨RX12, "step", "(II)V"⟩
abbrev cX12_unary : ByteArray := prog_14_method_93_code
def yX12_unary : MethodName := ⟨RX12, "unary", "(I)V"⟩
abbrev cX12_casts : ByteArray := prog_14_method_94_code
def yX12_casts : MethodName := ⟨RX12, "casts", "(I)V"⟩
abbrev cX12_isShift : ByteArray := prog_14_method_95_code
def yX12_isShift : MethodName := ⟨RX12, "isShift", "(I)Z"⟩
abbrev cX12_isBits : ByteArray := prog_14_method_96_code
def yX12_isBits : MethodName := ⟨RX12, "isBits", "(I)Z"⟩
abbrev cX12_binary : ByteArray := prog_14_method_97_code
def yX12_binary : MethodName := ⟨RX12, "binary", "(I)V"⟩
abbrev cX12_pair : ByteArray := prog_14_method_98_code
def yX12_pair : MethodName := ⟨RX12, "pair", "(IZ)Z"⟩
abbrev cX12_reckon : ByteArray := prog_14_method_99_code
def yX12_reckon : MethodName := ⟨RX12, "reckon", "(IIJJ)J"⟩
abbrev cX12_choice : ByteArray := prog_14_method_100_code
def yX12_choice : MethodName := ⟨RX12, "choice", "(I)V"⟩
abbrev cX12_isHeld : ByteArray := prog_14_method_101_code
def yX12_isHeld : MethodName := ⟨RX12, "isHeld", "(II)Z"⟩
abbrev cX12_assign : ByteArray := prog_14_method_102_code
def yX12_assign : MethodName := ⟨RX12, "assign", "(II)V"⟩
abbrev cX12_takes : ByteArray := prog_14_method_103_code
def yX12_takes : MethodName := ⟨RX12, "takes", "(III)Z"⟩
abbrev cX12_isCloser : ByteArray := prog_14_method_104_code
def yX12_isCloser : MethodName := ⟨RX12, "isCloser", "(II)Z"⟩
abbrev cX12_isMethod : ByteArray := prog_14_method_105_code
def yX12_isMethod : MethodName := ⟨RX12, "isMethod", "(I)Z"⟩
abbrev cX12_call : ByteArray := prog_14_method_106_code
def yX12_call : MethodName := ⟨RX12, "call", "(II)V"⟩
abbrev cX12_judgeStep : ByteArray := prog_14_method_107_code
def yX12_judgeStep : MethodName := ⟨RX12, "judgeStep", "(I)V"⟩
abbrev cX12_keep : ByteArray := prog_14_method_108_code
def yX12_keep : MethodName := ⟨RX12, "keep", "(I)V"⟩
abbrev cX12_declared : ByteArray := prog_14_method_109_code
def yX12_declared : MethodName := ⟨RX12, "declared", "(II)V"⟩
abbrev cX12_cased : ByteArray := prog_14_method_110_code
def yX12_cased : MethodName := ⟨RX12, "cased", "(II)V"⟩
abbrev cX12_returns : ByteArray := prog_14_method_111_code
def yX12_returns : MethodName := ⟨RX12, "returns", "(II)V"⟩
abbrev cX12_lateErr : ByteArray := prog_14_method_112_code
def yX12_lateErr : MethodName := ⟨RX12, "lateErr", "(II)V"⟩
abbrev cX12_now : ByteArray := prog_14_method_113_code
def yX12_now : MethodName := ⟨RX12, "now", "()J"⟩
abbrev cX12_be : ByteArray := prog_14_method_114_code
def yX12_be : MethodName := ⟨RX12, "be", "(J)V"⟩
abbrev cX12_flow : ByteArray := prog_14_method_115_code
def yX12_flow : MethodName := ⟨RX12, "flow", "()V"⟩
abbrev cX12_start : ByteArray := prog_14_method_116_code
def yX12_start : MethodName := ⟨RX12, "start", "(I)V"⟩
abbrev cX12_value : ByteArray := prog_14_method_117_code
def yX12_value : MethodName := ⟨RX12, "value", "(II)V"⟩
abbrev cX12_sided : ByteArray := prog_14_method_118_code
def yX12_sided : MethodName := ⟨RX12, "sided", "(I)V"⟩
abbrev cX12_flowExp : ByteArray := prog_14_method_119_code
def yX12_flowExp : MethodName := ⟨RX12, "flowExp", "(I)V"⟩
abbrev cX12_findAt : ByteArray := prog_14_method_120_code
def yX12_findAt : MethodName := ⟨RX12, "findAt", "(I)I"⟩
abbrev cX12_come : ByteArray := prog_14_method_121_code
def yX12_come : MethodName := ⟨RX12, "come", "(IZ)J"⟩
abbrev cX12_dead : ByteArray := prog_14_method_122_code
def yX12_dead : MethodName := ⟨RX12, "dead", "()V"⟩
abbrev cX12_flowStep : ByteArray := prog_14_method_123_code
def yX12_flowStep : MethodName := ⟨RX12, "flowStep", "(I)I"⟩
abbrev cX12_ended : ByteArray := prog_14_method_124_code
def yX12_ended : MethodName := ⟨RX12, "ended", "(I)V"⟩
abbrev cX12_read : ByteArray := prog_14_method_125_code
def yX12_read : MethodName := ⟨RX12, "read", "()I"⟩
abbrev cX12_place : ByteArray := prog_14_method_126_code
def yX12_place : MethodName := ⟨RX12, "place", "()I"⟩
abbrev cX12_isGood : ByteArray := prog_14_method_127_code
def yX12_isGood : MethodName := ⟨RX12, "isGood", "()Z"⟩
abbrev cX12_judge : ByteArray := prog_14_method_128_code
def yX12_judge : MethodName := ⟨RX12, "judge", "()I"⟩
abbrev cX12_tokens : ByteArray := prog_14_method_129_code
def yX12_tokens : MethodName := ⟨RX12, "tokens", "()I"⟩
abbrev cX12_told_ : ByteArray := prog_14_method_130_code
def yX12_told_ : MethodName := ⟨RX12, "told", "(I)I"⟩
abbrev cX12_isToken : ByteArray := prog_14_method_131_code
def yX12_isToken : MethodName := ⟨RX12, "isToken", "(I)Z"⟩
abbrev cX12_token : ByteArray := prog_14_method_132_code
def yX12_token : MethodName := ⟨RX12, "token", "(II)I"⟩
abbrev cX12_method_ : ByteArray := prog_14_method_133_code
def yX12_method_ : MethodName := ⟨RX12, "method", "(II)I"⟩
abbrev cX12_variable_ : ByteArray := prog_14_method_134_code
def yX12_variable_ : MethodName := ⟨RX12, "variable", "(II)I"⟩
abbrev cX12_means : ByteArray := prog_14_method_135_code
def yX12_means : MethodName := ⟨RX12, "means", "(I)I"⟩
abbrev cX12_expAt : ByteArray := prog_14_method_136_code
def yX12_expAt : MethodName := ⟨RX12, "expAt", "(II)I"⟩
abbrev cX12_type : ByteArray := prog_14_method_137_code
def yX12_type : MethodName := ⟨RX12, "type", "(II)I"⟩
abbrev cX12_constant : ByteArray := prog_14_method_138_code
def yX12_constant : MethodName := ⟨RX12, "constant", "(II)J"⟩
abbrev cX12_ends : ByteArray := prog_14_method_139_code
def yX12_ends : MethodName := ⟨RX12, "ends", "(I)I"⟩
abbrev cX12_assigned : ByteArray := prog_14_method_140_code
def yX12_assigned : MethodName := ⟨RX12, "assigned", "(II)I"⟩
abbrev cX12_argument : ByteArray := prog_14_method_141_code
def yX12_argument : MethodName := ⟨RX12, "argument", "(IJ)I"⟩
abbrev cX12_input : ByteArray := prog_14_method_142_code
def yX12_input : MethodName := ⟨RX12, "input", "(I)I"⟩
abbrev cX12_drain : ByteArray := prog_14_method_143_code
def yX12_drain : MethodName := ⟨RX12, "drain", "()I"⟩
abbrev cX12_links : ByteArray := prog_14_method_144_code
def yX12_links : MethodName := ⟨RX12, "links", "()V"⟩
abbrev cX12_pop1 : ByteArray := prog_14_method_145_code
def yX12_pop1 : MethodName := ⟨RX12, "pop1", "()J"⟩
abbrev cX12_put : ByteArray := prog_14_method_146_code
def yX12_put : MethodName := ⟨RX12, "put", "(J)V"⟩
abbrev cX12_count1 : ByteArray := prog_14_method_147_code
def yX12_count1 : MethodName := ⟨RX12, "count1", "()Z"⟩
abbrev cX12_slot : ByteArray := prog_14_method_148_code
def yX12_slot : MethodName := ⟨RX12, "slot", "(I)I"⟩
abbrev cX12_leave_ : ByteArray := prog_14_method_149_code
def yX12_leave_ : MethodName := ⟨RX12, "leave", "(IIJ)V"⟩
abbrev cX12_back : ByteArray := prog_14_method_150_code
def yX12_back : MethodName := ⟨RX12, "back", "(J)V"⟩
abbrev cX12_raise : ByteArray := prog_14_method_151_code
def yX12_raise : MethodName := ⟨RX12, "raise", "(J)V"⟩
abbrev cX12_begin : ByteArray := prog_14_method_152_code
def yX12_begin : MethodName := ⟨RX12, "begin", "(II)Z"⟩
abbrev cX12_run : ByteArray := prog_14_method_153_code
def yX12_run : MethodName := ⟨RX12, "run", "(II)I"⟩
abbrev cX12_work : ByteArray := prog_14_method_154_code
def yX12_work : MethodName := ⟨RX12, "work", "(I)V"⟩
abbrev cX12_operate : ByteArray := prog_14_method_155_code
def yX12_operate : MethodName := ⟨RX12, "operate", "(IIJJ)V"⟩
abbrev cX12_call0 : ByteArray := prog_14_method_156_code
def yX12_call0 : MethodName := ⟨RX12, "call0", "(I)V"⟩
abbrev cX12_next : ByteArray := prog_14_method_157_code
def yX12_next : MethodName := ⟨RX12, "next", "()J"⟩
abbrev cX12_tell : ByteArray := prog_14_method_158_code
def yX12_tell : MethodName := ⟨RX12, "tell", "(J)V"⟩
abbrev cX12_workStep : ByteArray := prog_14_method_159_code
def yX12_workStep : MethodName := ⟨RX12, "workStep", "(II)V"⟩
abbrev cX12_over : ByteArray := prog_14_method_160_code
def yX12_over : MethodName := ⟨RX12, "over", "()V"⟩
abbrev cX12_choose : ByteArray := prog_14_method_161_code
def yX12_choose : MethodName := ⟨RX12, "choose", "(IJ)V"⟩
abbrev cX12_ran : ByteArray := prog_14_method_162_code
def yX12_ran : MethodName := ⟨RX12, "ran", "(I)J"⟩
/-- a state of the reference: its ints (and booleans), its longs, its rows of ints (and booleans), its rows of longs, by the number of the field -/
abbrev RS : Type := (Nat → Int32) × (Nat → Int64) × (Nat → Nat → Int32) × (Nat → Nat → Int64)
def gI (σ : RS) (k : Nat) : Int32 := σ.1 k
def gL (σ : RS) (k : Nat) : Int64 := σ.2.1 k
def aI (σ : RS) (k : Nat) : Nat → Int32 := σ.2.2.1 k
def aL (σ : RS) (k : Nat) : Nat → Int64 := σ.2.2.2 k
theorem nb_eq {k : Nat} : Nat.beq k k = true := Nat.beq_refl k
theorem nb_ne {j k : Nat} (h : j ≠ k) : Nat.beq j k = false := by sorry
def sI (σ : RS) (k : Nat) (v : Int32) : RS := (fun j => match Nat.beq j k with
  | true => v
  | false => σ.1 j, σ.2.1, σ.2.2.1, σ.2.2.2)
def sL (σ : RS) (k : Nat) (v : Int64) : RS := (σ.1, fun j => match Nat.beq j k with
  | true => v
  | false => σ.2.1 j, σ.2.2.1, σ.2.2.2)
def sA (σ : RS) (k : Nat) (f : Nat → Int32) : RS := (σ.1, σ.2.1, fun j => match Nat.beq j k with
  | true => f
  | false => σ.2.2.1 j, σ.2.2.2)
def sM (σ : RS) (k : Nat) (f : Nat → Int64) : RS := (σ.1, σ.2.1, σ.2.2.1, fun j => match Nat.beq j k with
  | true => f
  | false => σ.2.2.2 j)
/-- kinds of its fields: 0 int, 1 boolean, 2 long, 3 row of ints, 4 of booleans, 5 of longs -/
def kds : List Nat := [3, 0, 0, 3, 3, 3, 3, 5, 3, 5, 4, 3, 0, 0, 0, 0, 0, 0, 0, 3, 3, 3, 3, 3, 3, 3, 3, 3, 3, 0, 3, 0, 0, 0, 1, 1, 0, 3, 3, 3, 3, 3, 0, 3, 3, 4, 3, 3, 3, 0, 3, 3, 3, 3, 3, 3, 3, 3, 3, 3, 3, 3, 0, 3, 3, 3, 0, 0, 1, 0, 3, 4, 5, 3, 0, 3, 3, 3, 4, 5, 3, 3, 3, 3, 4, 5, 4, 5, 3, 0, 3, 0, 1, 2, 2, 4, 5, 4, 5, 5, 0, 5, 5, 0, 3, 4, 3, 4, 5, 4, 5, 4, 0, 0, 0, 0, 1, 0, 3, 0, 0, 1, 3, 0, 5, 3, 3, 5, 0, 0, 5, 3, 3, 0, 3, 3, 3, 3, 3, 3, 5, 0, 0, 2, 0, 0, 0, 0, 0, 5]
def lns : List Nat := [2500, 0, 0, 2600, 2600, 2600, 2600, 2600, 2600, 2600, 2600, 2600, 0, 0, 0, 0, 0, 0, 0, 4000, 4000, 4000, 4000, 4000, 4000, 600, 600, 600, 600, 0, 600, 0, 0, 0, 0, 0, 0, 16, 16, 16, 16, 16, 0, 64, 64, 64, 64, 64, 64, 0, 600, 600, 600, 600, 600, 600, 600, 600, 600, 600, 600, 600, 0, 80, 80, 80, 0, 0, 0, 0, 700, 700, 700, 700, 0, 2000, 2000, 2000, 2000, 2000, 2600, 4000, 4000, 4000, 4000, 4000, 64, 64, 600, 0, 80, 0, 0, 0, 0, 600, 600, 600, 600, 600, 0, 300, 300, 0, 600, 600, 600, 600, 600, 2600, 2600, 2600, 0, 0, 0, 0, 0, 0, 2500, 0, 0, 0, 40, 0, 6, 4000, 300, 8000, 0, 0, 1860, 31, 31, 0, 2000, 2000, 2000, 2000, 2000, 2000, 2000, 0, 0, 0, 0, 0, 0, 0, 0, 200]
def arrs : List Nat := [0, 3, 4, 5, 6, 7, 8, 9, 10, 11, 19, 20, 21, 22, 23, 24, 25, 26, 27, 28, 30, 37, 38, 39, 40, 41, 43, 44, 45, 46, 47, 48, 50, 51, 52, 53, 54, 55, 56, 57, 58, 59, 60, 61, 63, 64, 65, 70, 71, 72, 73, 75, 76, 77, 78, 79, 80, 81, 82, 83, 84, 85, 86, 87, 88, 90, 95, 96, 97, 98, 99, 101, 102, 104, 105, 106, 107, 108, 109, 110, 111, 118, 122, 124, 125, 126, 127, 130, 131, 132, 134, 135, 136, 137, 138, 139, 140, 149]
def kd (k : Nat) : Nat := kds.getD k 9
def ln (k : Nat) : Nat := lns.getD k 0
def fv (ad : Nat → Nat) (σ : RS) (k : Nat) : Value := match kd k with
  | 0 => .int (gI σ k)
  | 1 => .int (gI σ k)
  | 2 => .long (gL σ k)
  | _ => .ref (ad k)
def fR (ad : Nat → Nat) (σ : RS) : List Value := (List.range 150).map (fv ad σ)
def ae (cA : Nat → ClassId) (ad : Nat → Nat) (σ : RS) (k : Nat) : Nat × va_E := (ad k, .inl (cA k, (ln k, match kd k with
  | 5 => .inr (.inl (aL σ k))
  | _ => .inl (aI σ k))))
def at12 (k : Nat) : FieldType := match kd k with
  | 3 => .int
  | 4 => .boolean
  | _ => .long
def RW (h : Nat) (ad : Nat → Nat) (cA : Nat → ClassId) (σ : RS) : va_W := (h, .inr (13, fR ad σ)) :: arrs.map (ae cA ad σ)
def RT (cA : Nat → ClassId) : List (ClassId × FieldType) := arrs.map (fun k => (cA k, at12 k))
theorem fR_len {ad : Nat → Nat} {σ : RS} : (fR ad σ).length = 150 := by sorry
theorem fR_at {ad : Nat → Nat} {σ : RS} {k : Nat} (h : k < 150) : (fR ad σ)[k]? = some (fv ad σ k) := by sorry
theorem RW_obj {h : Nat} {ad : Nat → Nat} {cA : Nat → ClassId} {σ : RS} : (RW h ad cA σ)[0]? = some (h, .inr (13, fR ad σ)) := rfl
theorem RW_arr {h : Nat} {ad : Nat → Nat} {cA : Nat → ClassId} {σ : RS} {i k : Nat} (hi : arrs[i]? = some k) : (RW h ad cA σ)[i + 1]? = some (ae cA ad σ k) := by sorry
theorem RT_arr {cA : Nat → ClassId} {i k : Nat} (hi : arrs[i]? = some k) : (RT cA)[i]? = some (cA k, at12 k) := by sorry
theorem fR_set {ad : Nat → Nat} {σ τ : RS} {k : Nat} {v : Value} (hk : k < 150) (hv : fv ad τ k = v) (ho : ∀ i, i ≠ k → fv ad τ i = fv ad σ i) : (fR ad σ).set k v = fR ad τ := by sorry
theorem kd_lt {k n : Nat} (h : kd k = n) (hn : n ≠ 9) : k < 150 := by sorry
theorem RW_setI {h : Nat} {ad : Nat → Nat} {cA : Nat → ClassId} {σ : RS} {k : Nat} {x : Int32} (hk : kd k = 0 ∨ kd k = 1) : (RW h ad cA σ).set 0 (h, .inr (13, (fR ad σ).set k (.int x))) = RW h ad cA (sI σ k x) := by sorry
theorem RW_setL {h : Nat} {ad : Nat → Nat} {cA : Nat → ClassId} {σ : RS} {k : Nat} {x : Int64} (hk : kd k = 2) : (RW h ad cA σ).set 0 (h, .inr (13, (fR ad σ).set k (.long x))) = RW h ad cA (sL σ k x) := by sorry
theorem arrs_nd : arrs.Nodup := by sorry
theorem ra_set {α : Type} {g g' : Nat → α} {i k : Nat} {v : α} (hi : arrs[i]? = some k) (hv : g' k = v) (ho : ∀ j, j ≠ k → g' j = g j) : (arrs.map g).set i v = arrs.map g' := by sorry
theorem RW_setA {h : Nat} {ad : Nat → Nat} {cA : Nat → ClassId} {σ : RS} {i k : Nat} {f : Nat → Int32} (hi : arrs[i]? = some k) (hk : kd k = 3 ∨ kd k = 4) : (RW h ad cA σ).set (i + 1) (ad k, .inl (cA k, (ln k, .inl f))) = RW h ad cA (sA σ k f) := by sorry
theorem RW_setM {h : Nat} {ad : Nat → Nat} {cA : Nat → ClassId} {σ : RS} {i k : Nat} {f : Nat → Int64} (hi : arrs[i]? = some k) (hk : kd k = 5) : (RW h ad cA σ).set (i + 1) (ad k, .inl (cA k, (ln k, .inr (.inl f)))) = RW h ad cA (sM σ k f) := by sorry
def ap (k : Nat) : Nat := arrs.idxOf k
theorem ap_ok : ∀ k, k < 150 → (kd k = 3 ∨ kd k = 4 ∨ kd k = 5) → arrs[ap k]? = some k := by sorry
theorem fin_ok : ∀ k, k < 150 → kd k < 3 → (TX12 k).2.2.2 = false := by sorry
theorem ty_ok0 : ∀ k, k < 150 → kd k = 0 → tyX12 k = .int := by sorry
theorem ty_ok1 : ∀ k, k < 150 → kd k = 1 → tyX12 k = .boolean := by sorry
theorem ty_ok2 : ∀ k, k < 150 → kd k = 2 → tyX12 k = .long := by sorry
theorem own_ok : ∀ k, k < 150 → (TX12 k).1 = "PlainJavaModel" := by sorry
def rPre (D : va_G) (h : Nat) (ad : Nat → Nat) (cA : Nat → ClassId) (σ : RS) (sz : Nat) (U : State) : Prop := U.heap.size = sz ∧ va_P D vwCl (RW h ad cA σ) U.heap ∧ va_K D vwCl (RT cA) U ∧ va_D (fun _ => True) (RW h ad cA σ)
def rPost (D : va_G) (h : Nat) (ad : Nat → Nat) (cA : Nat → ClassId) (σ : RS) (sz : Nat) (τ : RS) (t : State) : Prop := va_P D vwCl (RW h ad cA τ) t.heap ∧ va_K D vwCl (RT cA) t ∧ va_D (va_A (RW h ad cA σ) sz) (RW h ad cA τ)
/-- its methods: name, code, locals, answer, how many arguments -/
abbrev RM : Type := MethodName × ByteArray × Nat × Option FieldType × Nat
def mtab : List RM := [(yX12_feed, cX12_feed, 6, (some .int), 5), (yX12_lay, cX12_lay, 3, none, 1), (yX12_cut, cX12_cut, 2, (some .int), 1), (yX12_at, cX12_at, 2, (some .int), 1), (yX12_isLetter, cX12_isLetter, 2, (some .boolean), 1), (yX12_isDigit, cX12_isDigit, 2, (some .boolean), 1), (yX12_lexer, cX12_lexer, 4, none, 0), (yX12_word, cX12_word, 7, none, 1), (yX12_wordOf, cX12_wordOf, 3, (some .int), 1), (yX12_number, cX12_number, 7, none, 1), (yX12_character, cX12_character, 4, none, 1), (yX12_sign, cX12_sign, 10, none, 1), (yX12_wrong, cX12_wrong, 3, (some .boolean), 2), (yX12_cant, cX12_cant, 1, (some .boolean), 0), (yX12_isSign, cX12_isSign, 2, (some .boolean), 1), (yX12_isWord, cX12_isWord, 2, (some .boolean), 1), (yX12_isSignAt, cX12_isSignAt, 3, (some .boolean), 2), (yX12_take, cX12_take, 1, (some .boolean), 0), (yX12_want, cX12_want, 2, (some .boolean), 1), (yX12_enter, cX12_enter, 1, (some .boolean), 0), (yX12_emit, cX12_emit, 5, (some .int), 3), (yX12_emitExp, cX12_emitExp, 7, (some .int), 5), (yX12_strength, cX12_strength, 2, (some .int), 1), (yX12_isType, cX12_isType, 2, (some .boolean), 1), (yX12_isSetAt, cX12_isSetAt, 2, (some .boolean), 1), (yX12_push, cX12_push, 4, (some .boolean), 3), (yX12_whole, cX12_whole, 2, none, 1), (yX12_expression, cX12_expression, 3, (some .boolean), 0), (yX12_wait, cX12_wait, 2, (some .boolean), 1), (yX12_operand, cX12_operand, 6, (some .boolean), 1), (yX12_named, cX12_named, 5, (some .boolean), 1), (yX12_closeCall, cX12_closeCall, 3, (some .boolean), 0), (yX12_reduce, cX12_reduce, 8, none, 1), (yX12_complete, cX12_complete, 4, none, 0), (yX12_behind, cX12_behind, 6, (some .boolean), 0), (yX12_thing, cX12_thing, 4, (some .int), 2), (yX12_open, cX12_open, 4, (some .boolean), 3), (yX12_parse, cX12_parse, 1, (some .boolean), 0), (yX12_method, cX12_method, 5, (some .boolean), 0), (yX12_param, cX12_param, 5, (some .boolean), 2), (yX12_variable, cX12_variable, 5, (some .boolean), 3), (yX12_scope, cX12_scope, 2, (some .int), 0), (yX12_leave, cX12_leave, 4, none, 2), (yX12_isRow, cX12_isRow, 2, (some .boolean), 1), (yX12_piece, cX12_piece, 2, (some .boolean), 0), (yX12_grouped, cX12_grouped, 4, (some .boolean), 0), (yX12_isTold, cX12_isTold, 1, (some .boolean), 0), (yX12_told, cX12_told, 2, (some .boolean), 0), (yX12_declaration, cX12_declaration, 8, (some .boolean), 1), (yX12_statement, cX12_statement, 4, (some .boolean), 0), (yX12_plain, cX12_plain, 2, (some .boolean), 0), (yX12_pop, cX12_pop, 3, none, 0), (yX12_condition, cX12_condition, 1, (some .boolean), 0), (yX12_ifOf, cX12_ifOf, 4, (some .boolean), 0), (yX12_whileOf, cX12_whileOf, 4, (some .boolean), 0), (yX12_doOf, cX12_doOf, 4, (some .boolean), 0), (yX12_exps, cX12_exps, 2, (some .boolean), 0), (yX12_forOf, cX12_forOf, 6, (some .boolean), 0), (yX12_switchOf, cX12_switchOf, 4, (some .boolean), 0), (yX12_label, cX12_label, 5, (some .boolean), 0), (yX12_closeSwitch, cX12_closeSwitch, 3, (some .boolean), 0), (yX12_closed, cX12_closed, 2, (some .boolean), 1), (yX12_jump, cX12_jump, 8, (some .boolean), 0), (yX12_sameName, cX12_sameName, 3, (some .boolean), 2), (yX12_named_, cX12_named_, 5, (some .int), 2), (yX12_gives, cX12_gives, 6, (some .boolean), 0), (yX12_tryOf, cX12_tryOf, 4, (some .boolean), 0), (yX12_closeRow, cX12_closeRow, 5, (some .boolean), 1), (yX12_closeTry, cX12_closeTry, 4, (some .boolean), 3), (yX12_finished, cX12_finished, 5, (some .boolean), 0), (yX12_err, cX12_err, 4, none, 2), (yX12_find, cX12_find, 3, (some .int), 1), (yX12_isNumber, cX12_isNumber, 2, (some .boolean), 1), (yX12_widens, cX12_widens, 3, (some .boolean), 2), (yX12_holdsValue, cX12_holdsValue, 4, (some .boolean), 2), (yX12_fits, cX12_fits, 4, (some .boolean), 2), (yX12_cast, cX12_cast, 4, (some .long), 2), (yX12_lie, cX12_lie, 6, none, 4), (yX12_none, cX12_none, 2, none, 1), (yX12_isBad, cX12_isBad, 2, (some .boolean), 1), (yX12_need, cX12_need, 3, (some .boolean), 2), (yX12_wide, cX12_wide, 2, (some .int), 1), (yX12_judgeAll, cX12_judgeAll, 2, none, 0), (yX12_typeOfParam, cX12_typeOfParam, 3, (some .int), 2), (yX12_paramsOf, cX12_paramsOf, 2, (some .int), 1), (yX12_resultOf, cX12_resultOf, 2, (some .int), 1), (yX12_isNamed, cX12_isNamed, 5, (some .boolean), 2), (yX12_methodsTold, cX12_methodsTold, 6, none, 0), (yX12_judgeExp, cX12_judgeExp, 9, none, 1), (yX12_literal, cX12_literal, 5, none, 2), (yX12_step, cX12_step, 5, none, 2), (yX12_unary, cX12_unary, 8, none, 1), (yX12_casts, cX12_casts, 2, none, 1), (yX12_isShift, cX12_isShift, 2, (some .boolean), 1), (yX12_isBits, cX12_isBits, 2, (some .boolean), 1), (yX12_binary, cX12_binary, 10, none, 1), (yX12_pair, cX12_pair, 3, (some .boolean), 2), (yX12_reckon, cX12_reckon, 7, (some .long), 4), (yX12_choice, cX12_choice, 10, none, 1), (yX12_isHeld, cX12_isHeld, 3, (some .boolean), 2), (yX12_assign, cX12_assign, 9, none, 2), (yX12_takes, cX12_takes, 6, (some .boolean), 3), (yX12_isCloser, cX12_isCloser, 5, (some .boolean), 2), (yX12_isMethod, cX12_isMethod, 2, (some .boolean), 1), (yX12_call, cX12_call, 10, none, 2), (yX12_judgeStep, cX12_judgeStep, 7, none, 1), (yX12_keep, cX12_keep, 2, none, 1), (yX12_declared, cX12_declared, 3, none, 2), (yX12_cased, cX12_cased, 4, none, 2), (yX12_returns, cX12_returns, 4, none, 2), (yX12_lateErr, cX12_lateErr, 4, none, 2), (yX12_now, cX12_now, 1, (some .long), 0), (yX12_be, cX12_be, 3, none, 1), (yX12_flow, cX12_flow, 3, none, 0), (yX12_start, cX12_start, 5, none, 1), (yX12_value, cX12_value, 3, none, 2), (yX12_sided, cX12_sided, 4, none, 1), (yX12_flowExp, cX12_flowExp, 7, none, 1), (yX12_findAt, cX12_findAt, 2, (some .int), 1), (yX12_come, cX12_come, 6, (some .long), 2), (yX12_dead, cX12_dead, 1, none, 0), (yX12_flowStep, cX12_flowStep, 8, (some .int), 1), (yX12_ended, cX12_ended, 3, none, 1), (yX12_read, cX12_read, 5, (some .int), 0), (yX12_place, cX12_place, 1, (some .int), 0), (yX12_isGood, cX12_isGood, 1, (some .boolean), 0), (yX12_judge, cX12_judge, 2, (some .int), 0), (yX12_tokens, cX12_tokens, 1, (some .int), 0), (yX12_told_, cX12_told_, 2, (some .int), 1), (yX12_isToken, cX12_isToken, 2, (some .boolean), 1), (yX12_token, cX12_token, 3, (some .int), 2), (yX12_method_, cX12_method_, 3, (some .int), 2), (yX12_variable_, cX12_variable_, 3, (some .int), 2), (yX12_means, cX12_means, 2, (some .int), 1), (yX12_expAt, cX12_expAt, 5, (some .int), 2), (yX12_type, cX12_type, 4, (some .int), 2), (yX12_constant, cX12_constant, 4, (some .long), 2), (yX12_ends, cX12_ends, 2, (some .int), 1), (yX12_assigned, cX12_assigned, 3, (some .int), 2), (yX12_argument, cX12_argument, 4, (some .int), 2), (yX12_input, cX12_input, 2, (some .int), 1), (yX12_drain, cX12_drain, 2, (some .int), 0), (yX12_links, cX12_links, 4, none, 0), (yX12_pop1, cX12_pop1, 1, (some .long), 0), (yX12_put, cX12_put, 3, none, 1), (yX12_count1, cX12_count1, 1, (some .boolean), 0), (yX12_slot, cX12_slot, 2, (some .int), 1), (yX12_leave_, cX12_leave_, 7, none, 3), (yX12_back, cX12_back, 5, none, 1), (yX12_raise, cX12_raise, 5, none, 1), (yX12_begin, cX12_begin, 3, (some .boolean), 2), (yX12_run, cX12_run, 4, (some .int), 2), (yX12_work, cX12_work, 16, none, 1), (yX12_operate, cX12_operate, 7, none, 4), (yX12_call0, cX12_call0, 6, none, 1), (yX12_next, cX12_next, 1, (some .long), 0), (yX12_tell, cX12_tell, 3, none, 1), (yX12_workStep, cX12_workStep, 7, none, 2), (yX12_over, cX12_over, 2, none, 0), (yX12_choose, cX12_choose, 5, none, 2), (yX12_ran, cX12_ran, 2, (some .long), 1)]
def flk : List (Nat × Nat) := [(7, 0), (13, 3), (16, 4), (19, 5), (22, 6), (25, 7), (29, 8), (32, 9), (35, 10), (39, 11), (42, 19), (45, 20), (48, 21), (51, 22), (54, 23), (57, 24), (60, 25), (63, 26), (66, 27), (69, 28), (72, 30), (75, 37), (78, 38), (81, 39), (84, 40), (87, 41), (90, 43), (93, 44), (96, 45), (99, 46), (102, 47), (105, 48), (108, 50), (111, 51), (114, 52), (117, 53), (120, 54), (123, 55), (126, 56), (129, 57), (132, 58), (135, 59), (138, 60), (141, 61), (144, 63), (147, 64), (150, 65), (153, 70), (156, 71), (159, 72), (162, 73), (165, 75), (168, 76), (171, 77), (174, 78), (177, 79), (180, 80), (183, 81), (186, 82), (189, 83), (192, 84), (195, 85), (198, 86), (201, 87), (204, 88), (207, 90), (210, 95), (213, 96), (216, 97), (219, 98), (222, 99), (225, 101), (228, 102), (231, 104), (234, 105), (237, 106), (240, 107), (243, 108), (246, 109), (249, 110), (252, 111), (255, 118), (258, 120), (262, 122), (265, 124), (268, 125), (271, 126), (274, 127), (277, 130), (280, 131), (283, 132), (286, 134), (289, 135), (292, 136), (295, 137), (298, 138), (301, 139), (304, 140), (307, 149), (310, 1), (317, 12), (320, 13), (323, 2), (407, 15), (410, 16), (413, 14), (430, 17), (433, 18), (440, 29), (443, 31), (450, 34), (454, 35), (470, 33), (473, 32), (510, 49), (513, 62), (516, 36), (519, 42), (634, 66), (637, 67), (640, 89), (656, 69), (659, 74), (675, 68), (790, 91), (796, 112), (799, 113), (802, 93), (806, 94), (809, 114), (812, 103), (815, 100), (818, 117), (830, 115), (833, 92), (853, 116), (875, 119), (878, 121), (890, 123), (901, 128), (904, 144), (907, 145), (910, 142), (913, 129), (916, 133), (919, 141), (925, 143), (937, 146), (940, 147), (943, 148)]
def mlk : List (Nat × Nat) := [(313, 1), (326, 3), (330, 4), (334, 7), (337, 5), (340, 9), (343, 10), (346, 11), (349, 8), (416, 12), (420, 14), (423, 17), (427, 13), (436, 20), (446, 29), (457, 34), (460, 30), (463, 15), (466, 21), (476, 26), (479, 19), (482, 25), (486, 28), (489, 23), (492, 18), (495, 24), (498, 31), (501, 22), (504, 32), (507, 33), (522, 38), (525, 35), (529, 39), (532, 36), (535, 44), (538, 40), (542, 43), (545, 67), (548, 46), (551, 47), (554, 49), (557, 60), (560, 59), (563, 45), (566, 41), (570, 48), (573, 27), (576, 16), (579, 50), (582, 53), (585, 54), (588, 55), (591, 57), (594, 58), (597, 62), (600, 65), (603, 66), (606, 51), (609, 69), (612, 52), (615, 56), (618, 42), (622, 61), (625, 64), (628, 63), (631, 68), (649, 73), (652, 74), (662, 77), (666, 79), (669, 72), (672, 70), (678, 87), (681, 71), (684, 88), (687, 105), (690, 113), (697, 86), (700, 84), (703, 83), (706, 89), (709, 78), (712, 90), (715, 91), (718, 92), (721, 95), (724, 80), (727, 98), (730, 100), (733, 104), (736, 81), (741, 76), (745, 94), (748, 96), (752, 93), (755, 97), (763, 99), (766, 75), (769, 103), (772, 101), (775, 102), (778, 85), (781, 107), (784, 106), (787, 108), (793, 109), (821, 114), (824, 117), (827, 121), (836, 112), (840, 111), (844, 115), (847, 116), (850, 118), (856, 110), (859, 119), (863, 120), (866, 122), (869, 6), (872, 37), (881, 82), (884, 125), (887, 127), (893, 129), (896, 134), (922, 148), (928, 144), (931, 146), (934, 142), (946, 145), (949, 150), (952, 152), (955, 143), (958, 153), (962, 154), (965, 157), (968, 149), (971, 155), (974, 156), (977, 159), (981, 147), (984, 158)]
def llk : List (Nat × Int64) := [(353, 27707072068280686), (355, 1652126821), (357, 1667785074), (359, 6909556), (361, 1819242087), (363, 1987012964), (365, 26982), (367, 1701606245), (369, 512852847717), (371, 6713202), (373, 25711), (375, 126956707537768), (377, 1667330917), (379, 28258988067220596), (381, 422826041707), (383, 7165066978433856869), (385, 125780071117422), (387, 499968536439), (389, 7631481), (391, 426836779880), (393, 28826370426301561), (395, 439855505772), (397, 1953658213), (399, 439721161573), (401, 922337203685477580), (403, 10), (405, 2147483648), (643, (-128)), (645, 127), (647, 65535), (693, 7304564), (695, 26990), (739, (-1)), (759, 63), (761, 31), (899, (-1234567890123))]
def yno : MethodName := ⟨RX12, "", ""⟩
def yn (μ : Nat) : MethodName := match mtab[μ]? with
  | some r => r.1
  | none => yno
def wC (r : RM) : Cond := .code r.1 r.2.1 r.2.2.1 r.2.2.2.1
def wI (r : RM) : Cond := .instanceMethod r.1
def wSl (r : RM) : Cond := .selects RX12 r.1 r.1
def wM (q : Nat × Nat) : Cond := .methodLink RX12 q.1 (yn q.2)
def wF (q : Nat × Nat) : Cond := .fieldLink RX12 q.1 "PlainJavaModel" (TX12 q.2).2.1 (TX12 q.2).2.2.1
def wL (q : Nat × Int64) : Cond := .constantLong RX12 q.1 q.2
/-- all words that the reference's methods need -/
def wG : List Cond := .initialized RX12 :: (mtab.map wC ++ (mtab.map wI ++ (mtab.map wSl ++ (mlk.map wM ++ (flk.map wF ++ (llk.map wL ++ wsX120))))))
theorem wG_C {μ : Nat} {r : RM} (h : mtab[μ]? = some r) : wC r ∈ wG := by sorry
theorem wG_I {μ : Nat} {r : RM} (h : mtab[μ]? = some r) : wI r ∈ wG := by sorry
theorem wG_S {μ : Nat} {r : RM} (h : mtab[μ]? = some r) : wSl r ∈ wG := by sorry
theorem wG_M {q : Nat × Nat} (h : q ∈ mlk) : wM q ∈ wG := by sorry
theorem wG_F {q : Nat × Nat} (h : q ∈ flk) : wF q ∈ wG := by sorry
theorem wG_L {q : Nat × Int64} (h : q ∈ llk) : wL q ∈ wG := by sorry
theorem wG_T {w : Cond} (h : w ∈ wsX120) : w ∈ wG := by sorry
set_option maxRecDepth 100000 in
theorem wG_good : wG.all goodWord = true := by sorry
theorem mtab_ok : ∀ μ, μ < mtab.length → ∀ r, mtab[μ]? = some r → r.1.cls = RX12 ∧ (parseMethodDescriptor r.1.desc).map (fun d => d.parameters.length) = some r.2.2.2.2 ∧ r.2.2.1 ≤ 80 := by sorry
/-- an instruction with its length; a, b: what a program has found out about it (a field's kind and number, a callee's arguments and number, a target, a constant), its cases -/
abbrev RI : Type := Instr × Nat × Int × Nat × List (Int × Nat)
abbrev RL : Type := List (Nat × Value)
/-- values: the reference itself is .ref 1000, the row of field k is .ref k -/
def rcv (h : Nat) (ad : Nat → Nat) (v : Value) : Value := match v with
  | .ref n => .ref (match Nat.beq n 1000 with
    | true => h
    | false => ad n)
  | w => w
def rlk (ls : RL) (i : Nat) : Option Value := match ls with
  | [] => none
  | q :: r => match Nat.beq q.1 i with
    | true => some q.2
    | false => rlk r i
/-- does the place q stay when i (and j) are written -/
def rky (i j : Nat) (q : Nat × Value) : Bool := match Nat.beq q.1 i with
  | true => false
  | false => match Nat.beq q.1 j with
    | true => false
    | false => match Nat.beq (q.1 + 1) i with
      | false => true
      | true => match q.2 with
        | .long _ => false
        | .double _ => false
        | _ => true
def rdl (i j : Nat) : RL → RL
  | [] => []
  | q :: r => match rky i j q with
    | true => q :: rdl i j r
    | false => rdl i j r
def rs1 (ls : RL) (i : Nat) (v : Value) : RL := (i, v) :: rdl i i ls
def rs2 (ls : RL) (i : Nat) (v : Value) : RL := (i, v) :: rdl i (i + 1) ls
def rcs (st : List Value) : Nat := match st with
  | [] => 0
  | .long _ :: r => rcs r + 2
  | .double _ :: r => rcs r + 2
  | _ :: r => rcs r + 1
def rcd (c : Jvm.ClassFile.Cond) (x y : Int32) : Prop := match c with
  | .eq => x = y
  | .ne => ¬ x = y
  | .lt => x < y
  | .ge => y ≤ x
  | .gt => y < x
  | .le => x ≤ y
def rno (c : Jvm.ClassFile.Cond) (x y : Int32) : Prop := match c with
  | .eq => ¬ x = y
  | .ne => x = y
  | .lt => ¬ x < y
  | .ge => ¬ y ≤ x
  | .gt => ¬ y < x
  | .le => ¬ x ≤ y
def rsw (x : Int) (l : List (Int × Nat)) (d : Nat) (K : Nat → Prop) : Prop := match l with
  | [] => K d
  | q :: r => (x = q.1 → K q.2) ∧ (¬ x = q.1 → rsw x r d K)
abbrev RK : Type := Nat → RL → List Value → RS → Prop
abbrev RP : Type := List Value → RS → Prop
abbrev RQ : Type := List Value → RS → Option Value → RS → Prop
abbrev RC : Type := List (Nat × RP × RQ)
def rct (ct : RC) (μ : Nat) : Option (RP × RQ) := match ct with
  | [] => none
  | q :: r => match Nat.beq q.1 μ with
    | true => some q.2
    | false => rct r μ
/-- one instruction: what must hold, so that what is behind it (k: the next one, K: a target, Z: the method's end) can be reached -/
def rst (ct : RC) (K : RK) (Z : Option Value → RS → Prop) (x : RI) (pc : Nat) (ls : RL) (st : List Value) (σ : RS) (k : RK) : Prop :=
  match x.1 with
  | .iconst n => k (pc + 1) ls (.int (Int32.ofInt n) :: st) σ
  | .bipush n => k (pc + 2) ls (.int (Int32.ofInt n) :: st) σ
  | .sipush n => k (pc + 3) ls (.int (Int32.ofInt n) :: st) σ
  | .lconst n => k (pc + 1) ls (.long (Int64.ofNat (n : Nat)) :: st) σ
  | .ldc2_w _ => k (pc + 3) ls (.long (Int64.ofInt x.2.2.1) :: st) σ
  | .iload_n _ => match rlk ls x.2.2.2.1 with
    | some (.int v) => k (pc + 1) ls (.int v :: st) σ
    | _ => False
  | .iload n => match rlk ls n with
    | some (.int v) => k (pc + 2) ls (.int v :: st) σ
    | _ => False
  | .lload_n _ => match rlk ls x.2.2.2.1 with
    | some (.long v) => k (pc + 1) ls (.long v :: st) σ
    | _ => False
  | .lload n => match rlk ls n with
    | some (.long v) => k (pc + 2) ls (.long v :: st) σ
    | _ => False
  | .aload_n _ => match rlk ls x.2.2.2.1 with
    | some (.ref v) => k (pc + 1) ls (.ref v :: st) σ
    | _ => False
  | .istore_n _ => match st with
    | .int v :: r => k (pc + 1) (rs1 ls x.2.2.2.1 (.int v)) r σ
    | _ => False
  | .istore n => match st with
    | .int v :: r => k (pc + 2) (rs1 ls n (.int v)) r σ
    | _ => False
  | .lstore_n _ => match st with
    | .long v :: r => k (pc + 1) (rs2 ls x.2.2.2.1 (.long v)) r σ
    | _ => False
  | .lstore n => match st with
    | .long v :: r => k (pc + 2) (rs2 ls n (.long v)) r σ
    | _ => False
  | .iinc n d => match rlk ls n with
    | some (.int v) => k (pc + 3) (rs1 ls n (.int (v + Int32.ofInt d))) st σ
    | _ => False
  | .iadd => match st with
    | .int y :: .int x :: r => k (pc + 1) ls (.int (x + y) :: r) σ
    | _ => False
  | .isub => match st with
    | .int y :: .int x :: r => k (pc + 1) ls (.int (x - y) :: r) σ
    | _ => False
  | .imul => match st with
    | .int y :: .int x :: r => k (pc + 1) ls (.int (x * y) :: r) σ
    | _ => False
  | .iand => match st with
    | .int y :: .int x :: r => k (pc + 1) ls (.int (x &&& y) :: r) σ
    | _ => False
  | .ior => match st with
    | .int y :: .int x :: r => k (pc + 1) ls (.int (x ||| y) :: r) σ
    | _ => False
  | .ishl => match st with
    | .int y :: .int x :: r => ∀ v : Int32, v = x <<< (y &&& 31) → k (pc + 1) ls (.int v :: r) σ
    | _ => False
  | .ishr => match st with
    | .int y :: .int x :: r => k (pc + 1) ls (.int (x >>> (y &&& 31)) :: r) σ
    | _ => False
  | .iushr => match st with
    | .int y :: .int x :: r => ∀ v : Int32, v = (x.toUInt32 >>> (y.toUInt32 &&& Int32.toUInt32 31)).toInt32 → k (pc + 1) ls (.int v :: r) σ
    | _ => False
  | .ladd => match st with
    | .long y :: .long x :: r => k (pc + 1) ls (.long (x + y) :: r) σ
    | _ => False
  | .lsub => match st with
    | .long y :: .long x :: r => k (pc + 1) ls (.long (x - y) :: r) σ
    | _ => False
  | .lmul => match st with
    | .long y :: .long x :: r => k (pc + 1) ls (.long (x * y) :: r) σ
    | _ => False
  | .land => match st with
    | .long y :: .long x :: r => k (pc + 1) ls (.long (x &&& y) :: r) σ
    | _ => False
  | .lor => match st with
    | .long y :: .long x :: r => k (pc + 1) ls (.long (x ||| y) :: r) σ
    | _ => False
  | .lxor => match st with
    | .long y :: .long x :: r => k (pc + 1) ls (.long (x ^^^ y) :: r) σ
    | _ => False
  | .ldiv => match st with
    | .long y :: .long x :: r => ¬ y = 0 ∧ k (pc + 1) ls (.long (x / y) :: r) σ
    | _ => False
  | .lrem => match st with
    | .long y :: .long x :: r => ¬ y = 0 ∧ ∀ v : Int64, v = x - x / y * y → k (pc + 1) ls (.long v :: r) σ
    | _ => False
  | .lneg => match st with
    | .long x :: r => k (pc + 1) ls (.long (-x) :: r) σ
    | _ => False
  | .lshl => match st with
    | .int y :: .long x :: r => ∀ v : Int64, v = x <<< (y.toInt64 &&& 63) → k (pc + 1) ls (.long v :: r) σ
    | _ => False
  | .lshr => match st with
    | .int y :: .long x :: r => ∀ v : Int64, v = x >>> (y.toInt64 &&& 63) → k (pc + 1) ls (.long v :: r) σ
    | _ => False
  | .lushr => match st with
    | .int y :: .long x :: r => ∀ v : Int64, v = (x.toUInt64 >>> (y.toInt64.toUInt64 &&& Int64.toUInt64 63)).toInt64 → k (pc + 1) ls (.long v :: r) σ
    | _ => False
  | .i2l => match st with
    | .int x :: r => k (pc + 1) ls (.long x.toInt64 :: r) σ
    | _ => False
  | .l2i => match st with
    | .long x :: r => k (pc + 1) ls (.int x.toInt32 :: r) σ
    | _ => False
  | .i2b => match st with
    | .int x :: r => k (pc + 1) ls (.int x.toInt8.toInt32 :: r) σ
    | _ => False
  | .i2c => match st with
    | .int x :: r => k (pc + 1) ls (.int (x.toUInt32 % 65536).toInt32 :: r) σ
    | _ => False
  | .lcmp => match st with
    | .long y :: .long x :: r => k (pc + 1) ls (.int (lg_cmp x y) :: r) σ
    | _ => False
  | .dup => match st with
    | .int x :: r => k (pc + 1) ls (.int x :: .int x :: r) σ
    | .ref x :: r => k (pc + 1) ls (.ref x :: .ref x :: r) σ
    | _ => False
  | .dup2 => match st with
    | .int y :: .ref x :: r => k (pc + 1) ls (.int y :: .ref x :: .int y :: .ref x :: r) σ
    | _ => False
  | .pop => match st with
    | .int _ :: r => k (pc + 1) ls r σ
    | _ => False
  | .ifCond c _ => match st with
    | .int v :: r => (rcd c v 0 → K x.2.2.2.1 ls r σ) ∧ (rno c v 0 → k (pc + 3) ls r σ)
    | _ => False
  | .if_icmp c _ => match st with
    | .int y :: .int v :: r => (rcd c v y → K x.2.2.2.1 ls r σ) ∧ (rno c v y → k (pc + 3) ls r σ)
    | _ => False
  | .goto _ => K x.2.2.2.1 ls st σ
  | .tableswitch _ _ _ _ => match st with
    | .int v :: r => rsw v.toInt x.2.2.2.2 x.2.2.2.1 (fun t => K t ls r σ)
    | _ => False
  | .lookupswitch _ _ => match st with
    | .int v :: r => rsw v.toInt x.2.2.2.2 x.2.2.2.1 (fun t => K t ls r σ)
    | _ => False
  | .ireturn => match st with
    | [.int v] => (match Nat.beq x.2.2.1.toNat 2 with
      | true => v = 0 ∨ v = 1
      | false => True) ∧ Z (some (.int v)) σ
    | _ => False
  | .lreturn => match st with
    | [.long v] => Z (some (.long v)) σ
    | _ => False
  | .return_ => match st with
    | [] => Z none σ
    | _ => False
  | .getfield _ => match st with
    | .ref n :: r => n = 1000 ∧ (match Nat.beq x.2.2.1.toNat 0 with
      | true => k (pc + 3) ls (.int (gI σ x.2.2.2.1) :: r) σ
      | false => match Nat.beq x.2.2.1.toNat 1 with
        | true => k (pc + 3) ls (.int (gI σ x.2.2.2.1) :: r) σ
        | false => match Nat.beq x.2.2.1.toNat 2 with
          | true => k (pc + 3) ls (.long (gL σ x.2.2.2.1) :: r) σ
          | false => k (pc + 3) ls (.ref x.2.2.2.1 :: r) σ)
    | _ => False
  | .putfield _ => match st with
    | .int v :: .ref n :: r => n = 1000 ∧ (match Nat.beq x.2.2.1.toNat 0 with
      | true => k (pc + 3) ls r (sI σ x.2.2.2.1 v)
      | false => match Nat.beq x.2.2.1.toNat 1 with
        | true => (v = 0 ∨ v = 1) ∧ k (pc + 3) ls r (sI σ x.2.2.2.1 v)
        | false => False)
    | .long v :: .ref n :: r => n = 1000 ∧ (match Nat.beq x.2.2.1.toNat 2 with
      | true => k (pc + 3) ls r (sL σ x.2.2.2.1 v)
      | false => False)
    | _ => False
  | .iaload => match st with
    | .int j :: .ref n :: r => kd n = 3 ∧ vp_in j (ln n) ∧ k (pc + 1) ls (.int (aI σ n j.toNatClampNeg) :: r) σ
    | _ => False
  | .baload => match st with
    | .int j :: .ref n :: r => kd n = 4 ∧ vp_in j (ln n) ∧ k (pc + 1) ls (.int (aI σ n j.toNatClampNeg) :: r) σ
    | _ => False
  | .laload => match st with
    | .int j :: .ref n :: r => kd n = 5 ∧ vp_in j (ln n) ∧ k (pc + 1) ls (.long (aL σ n j.toNatClampNeg) :: r) σ
    | _ => False
  | .iastore => match st with
    | .int v :: .int j :: .ref n :: r => kd n = 3 ∧ vp_in j (ln n) ∧ k (pc + 1) ls r (sA σ n (upd (aI σ n) j.toNatClampNeg v))
    | _ => False
  | .bastore => match st with
    | .int v :: .int j :: .ref n :: r => kd n = 4 ∧ vp_in j (ln n) ∧ (v = 0 ∨ v = 1) ∧ k (pc + 1) ls r (sA σ n (upd (aI σ n) j.toNatClampNeg v))
    | _ => False
  | .lastore => match st with
    | .long v :: .int j :: .ref n :: r => kd n = 5 ∧ vp_in j (ln n) ∧ k (pc + 1) ls r (sM σ n (vp_updL (aL σ n) j.toNatClampNeg v))
    | _ => False
  | .invokevirtual _ => match rct ct x.2.2.2.1 with
    | some (P, Q) => match st.drop x.2.2.1.toNat with
      | .ref n :: r => n = 1000 ∧ rcs r ≤ 8 ∧ P (st.take x.2.2.1.toNat).reverse σ ∧ ∀ (w : Option Value) (τ : RS), Q (st.take x.2.2.1.toNat).reverse σ w τ → k (pc + 3) ls (w.toList ++ r) τ
      | _ => False
    | none => False
  | _ => False
def rwp (ct : RC) (K : RK) (Z : Option Value → RS → Prop) : List RI → RK
  | [], pc, ls, st, σ => K pc ls st σ
  | x :: is, pc, ls, st, σ => rst ct K Z x pc ls st σ (rwp ct K Z is)
/-- the tables say of an instruction what was found out about it -/
def rok2 (nL : Nat) (ret : Option FieldType) (x : RI) (pc : Nat) : Bool :=
  match x.1 with
  | .iconst _ => x.2.1 == 1
  | .bipush n => x.2.1 == 2 && decide ((Int8.ofInt n).toInt32 = Int32.ofInt n)
  | .sipush n => x.2.1 == 3 && decide ((Int16.ofInt n).toInt32 = Int32.ofInt n)
  | .lconst _ => x.2.1 == 1
  | .ldc2_w i => x.2.1 == 3 && decide ((i, Int64.ofInt x.2.2.1) ∈ llk)
  | .iload_n n => x.2.1 == 1 && decide ((n : Nat) = x.2.2.2.1)
  | .iload _ => x.2.1 == 2
  | .lload_n n => x.2.1 == 1 && decide ((n : Nat) = x.2.2.2.1)
  | .lload _ => x.2.1 == 2
  | .aload_n n => x.2.1 == 1 && decide ((n : Nat) = x.2.2.2.1)
  | .istore_n n => x.2.1 == 1 && decide ((n : Nat) < nL) && decide ((n : Nat) = x.2.2.2.1)
  | .istore n => x.2.1 == 2 && decide (n < nL)
  | .lstore_n n => x.2.1 == 1 && decide ((n : Nat) + 1 < nL) && decide ((n : Nat) = x.2.2.2.1)
  | .lstore n => x.2.1 == 2 && decide (n + 1 < nL)
  | .iinc n _ => x.2.1 == 3 && decide (n < nL)
  | .ifCond _ o => x.2.1 == 3 && decide ((pc : Int) + o = (x.2.2.2.1 : Int))
  | .if_icmp _ o => x.2.1 == 3 && decide ((pc : Int) + o = (x.2.2.2.1 : Int))
  | .goto o => x.2.1 == 3 && decide ((pc : Int) + o = (x.2.2.2.1 : Int))
  | .tableswitch d lo hi os => decide ((pc : Int) + d = (x.2.2.2.1 : Int)) && decide (hi + 1 = lo + x.2.2.2.2.length) && decide (x.2.2.2.2.length = os.size) && (List.range os.size).all (fun j => match x.2.2.2.2[j]?, os[j]? with
    | some q, some o => decide (q.1 = lo + j) && decide ((pc : Int) + o = (q.2 : Int))
    | _, _ => false)
  | .lookupswitch d ps => decide ((pc : Int) + d = (x.2.2.2.1 : Int)) && (ps.toList.zip (ps.toList.drop 1)).all (fun (a, next) => a.1 < next.1) && decide (x.2.2.2.2.map (fun q => (q.1, (q.2 : Int))) = ps.toList.map (fun q => (q.1, (pc : Int) + q.2)))
  | .ireturn => x.2.1 == 1 && ((decide (ret = some .int) && decide (x.2.2.1 = 1)) || (decide (ret = some .boolean) && decide (x.2.2.1 = 2)))
  | .lreturn => x.2.1 == 1 && decide (ret = some .long)
  | .return_ => x.2.1 == 1 && decide (ret = none)
  | .getfield i => x.2.1 == 3 && decide ((i, x.2.2.2.1) ∈ flk) && decide ((kd x.2.2.2.1 : Int) = x.2.2.1) && decide (x.2.2.2.1 < 150)
  | .putfield i => x.2.1 == 3 && decide ((i, x.2.2.2.1) ∈ flk) && decide ((kd x.2.2.2.1 : Int) = x.2.2.1) && decide (x.2.2.2.1 < 150)
  | .invokevirtual i => x.2.1 == 3 && decide ((i, x.2.2.2.1) ∈ mlk) && (match mtab[x.2.2.2.1]? with
    | some r => decide ((r.2.2.2.2 : Int) = x.2.2.1)
    | none => false)
  | _ => x.2.1 == 1
def rok (cc : ByteArray) (nL : Nat) (ret : Option FieldType) (x : RI) (pc : Nat) : Bool := decide (decode cc pc = .ok (x.1, x.2.1)) && rok2 nL ret x pc
def rokB (cc : ByteArray) (nL : Nat) (ret : Option FieldType) : List RI → Nat → Bool
  | [], _ => true
  | x :: is, pc => rok cc nL ret x pc && rokB cc nL ret is (pc + x.2.1)
theorem rcat {h : Nat} {ad : Nat → Nat} {v : Value} : (rcv h ad v).category = v.category := by sorry
theorem rlk_mem {ls : RL} {i : Nat} {v : Value} (h : rlk ls i = some v) : (i, v) ∈ ls := by sorry
def rlm (h : Nat) (ad : Nat → Nat) (ls : RL) : RL := ls.map (fun q => (q.1, rcv h ad q.2))
theorem rlm_at {h : Nat} {ad : Nat → Nat} {ls : RL} {a : Array Slot} {nL i : Nat} {v : Value} (hl : lv_has a nL (rlm h ad ls)) (hk : rlk ls i = some v) : a[i]? = some (.val (rcv h ad v)) := by sorry
theorem rdl_eq1 {i : Nat} (ls : RL) : rdl i i ls = ls.filter (fun q => !(q.1 == i) && !(q.1 + 1 == i && q.2.category == 2)) := by sorry
theorem rdl_eq2 {i : Nat} (ls : RL) : rdl i (i + 1) ls = ls.filter (fun q => !(q.1 == i) && (!(q.1 == i + 1) && !(q.1 + 1 == i && q.2.category == 2))) := by sorry
theorem rlm_s1 {h : Nat} {ad : Nat → Nat} {ls : RL} {i : Nat} {v : Value} : (i, rcv h ad v) :: (rlm h ad ls).filter (fun q => !(q.1 == i) && !(q.1 + 1 == i && q.2.category == 2)) = rlm h ad (rs1 ls i v) := by sorry
theorem rlm_s2 {h : Nat} {ad : Nat → Nat} {ls : RL} {i : Nat} {v : Value} : (i, rcv h ad v) :: (rlm h ad ls).filter (fun q => !(q.1 == i) && (!(q.1 == i + 1) && !(q.1 + 1 == i && q.2.category == 2))) = rlm h ad (rs2 ls i v) := by sorry
theorem rcs_cat {h : Nat} {ad : Nat → Nat} {st : List Value} : ((st.map (rcv h ad)).map fun v => v.category).sum = rcs st := by sorry
def rQc (D : va_G) (h : Nat) (ad : Nat → Nat) (cA : Nat → ClassId) (σ : RS) (sz : Nat) (post : Option Value → RS → Prop) : Array Value → State → Outcome → State → Prop := fun _ st oc t => (∃ (r : Option Value) (τ : RS), oc = .returned (r.map (rcv h ad)) ∧ post r τ ∧ rPost D h ad cA σ sz τ t) ∧ va_F (va_A (RW h ad cA σ) sz) st t
/-- a method of the reference keeps its contract: P of the arguments and the state, Q of the answer and the state behind it; lev: frames -/
def RMet (l : Launch) (lev μ : Nat) (P : RP) (Q : RQ) : Prop := ∃ r : RM, mtab[μ]? = some r ∧ ∀ (D : va_G) (h : Nat) (ad : Nat → Nat) (cA : Nat → ClassId) (σ : RS) (sz : Nat) (As : List Value), P As σ →
  Met l r.1 (wC r :: wG) { frames := lev, cells := 0, slots := 0, locals := 100 * lev } (va_Pc (.ref h :: As.map (rcv h ad)) (fun U => rPre D h ad cA σ sz U)) (rQc D h ad cA σ sz (Q As σ)) 0 0 (va_A (RW h ad cA σ) sz)
theorem va_freeAll {A0 : Nat → Prop} {ws : va_W} {H0 H : Heap} {locs : List Loc} (hD : va_D A0 ws) (hS : va_S A0 H0 H locs) (hA : ∀ q, H0.size ≤ q → A0 q) : ∀ q, va_A ws H.size q → A0 q := by sorry
section RMS
variable {p : Program} {l : Launch} {e : Env} {R : Room} {s : State} {m : MethodId} {args : Array Value} {below : List Frame} {meth : Method} {c : Code} {H : Heap} {locs : List Loc} {cells slots : Nat} {Q : State → Prop}
theorem r_call {D : va_G} {h : Nat} {ad : Nat → Nat} {cA : Nat → ClassId} {σ : RS} {sz pc : Nat} {post : Option Value → RS → Prop} {ls : Array Slot} {rest st0 : List Value} {a : Array Value} {A0 : Nat → Prop} {H0 : Heap} {free : Addr → Prop}
    (hr : va_Run p l e R s m args below meth c H locs cells slots 0 0 (F0 m pc ls st0) rest (rQc D h ad cA σ sz post a) free) (hS : va_S A0 H0 H locs) (hA : ∀ q, q < H.size → va_A (RW h ad cA σ) sz q → A0 q) (hf : ∀ q, free q → A0 q)
    (kk : ∀ (r : Option Value) (τ : RS) (t : State) (H1 : Heap) (locs1 : List Loc), t.heap = H1 → s.vm.Alike t.vm → post r τ → rPost D h ad cA σ sz τ t → va_S A0 H0 H1 locs1 → W p l e R s m args below meth c H1 locs1 cells slots Q (F0 m (pc + 3) ls ((r.map (rcv h ad)).toList ++ rest))) : W p l e R s m args below meth c H locs cells slots Q (F0 m pc ls st0) := by sorry
end RMS
section RSW
theorem rsw_tab {x lo : Int} {l : List (Int × Nat)} {d : Nat} {K : Nat → Prop} (h : rsw x l d K) (hl : ∀ (j : Nat) (q : Int × Nat), l[j]? = some q → q.1 = lo + j) : (∀ (j : Nat) (q : Int × Nat), l[j]? = some q → x = lo + j → K q.2) ∧ ((x < lo ∨ lo + l.length ≤ x) → K d) := by sorry
theorem rsw_look {x : Int} {l : List (Int × Nat)} {ps : List (Int × Int)} {d : Nat} {dd pc : Int} {K : Nat → Prop} (h : rsw x l d K) (hd : pc + dd = d) (hl : l.map (fun q => (q.1, (q.2 : Int))) = ps.map (fun q => (q.1, pc + q.2))) : ∃ t : Nat, pc + Op.lookupswitch.offset ps dd x = t ∧ K t := by sorry
end RSW
theorem rcv_lt {h : Nat} {ad : Nat → Nat} {n : Nat} (hn : n < 150) : rcv h ad (.ref n) = .ref (ad n) := by sorry
theorem ae_i {cA : Nat → ClassId} {ad : Nat → Nat} {σ : RS} {n : Nat} (hk : kd n = 3 ∨ kd n = 4) : ae cA ad σ n = (ad n, .inl (cA n, (ln n, .inl (aI σ n)))) := by sorry
theorem ae_l {cA : Nat → ClassId} {ad : Nat → Nat} {σ : RS} {n : Nat} (hk : kd n = 5) : ae cA ad σ n = (ad n, .inl (cA n, (ln n, .inr (.inl (aL σ n))))) := by sorry
theorem at_3 {n : Nat} (hk : kd n = 3) : at12 n = .int := by sorry
theorem at_4 {n : Nat} (hk : kd n = 4) : at12 n = .boolean := by sorry
theorem at_5 {n : Nat} (hk : kd n = 5) : at12 n = .long := by sorry
theorem RW_ai {h : Nat} {ad : Nat → Nat} {cA : Nat → ClassId} {σ : RS} {n : Nat} (hk : kd n = 3 ∨ kd n = 4) : (RW h ad cA σ)[ap n + 1]? = some (ad n, .inl (cA n, (ln n, .inl (aI σ n)))) := by sorry
theorem RW_al {h : Nat} {ad : Nat → Nat} {cA : Nat → ClassId} {σ : RS} {n : Nat} (hk : kd n = 5) : (RW h ad cA σ)[ap n + 1]? = some (ad n, .inl (cA n, (ln n, .inr (.inl (aL σ n))))) := by sorry
theorem RT_3 {cA : Nat → ClassId} {n : Nat} (hk : kd n = 3) : (RT cA)[ap n]? = some (cA n, .int) := by sorry
theorem RT_4 {cA : Nat → ClassId} {n : Nat} (hk : kd n = 4) : (RT cA)[ap n]? = some (cA n, .boolean) := by sorry
theorem RT_5 {cA : Nat → ClassId} {n : Nat} (hk : kd n = 5) : (RT cA)[ap n]? = some (cA n, .long) := by sorry
theorem nar_b {v : Int32} (h : v = 0 ∨ v = 1) : vp_nar .boolean v = v := by sorry
theorem rct_mem {ct : RC} {μ : Nat} {P : RP} {Q : RQ} (h : rct ct μ = some (P, Q)) : (μ, P, Q) ∈ ct := by sorry
theorem rlg_sl {h : Nat} {ad : Nat → Nat} (vs : List Value) : (lg_sl (vs.map (rcv h ad))).length = (lg_sl vs).length := by sorry
theorem rlg_len {h : Nat} {ad : Nat → Nat} {As : List Value} : (lg_sl (Value.ref h :: As.map (rcv h ad))).length = (lg_sl (.ref 1000 :: As)).length := rlg_sl (h := h) (ad := ad) (.ref 1000 :: As)
theorem rlv_args {h : Nat} {ad : Nat → Nat} (vs : List Value) : ∀ i, rlm h ad (lv_args i vs) = lv_args i (vs.map (rcv h ad)) := by sorry
theorem rlg_args {h : Nat} {ad : Nat → Nat} {As : List Value} : rlm h ad (lv_args 0 (.ref 1000 :: As)) = lv_args 0 (Value.ref h :: As.map (rcv h ad)) := rlv_args (.ref 1000 :: As) 0
section RSO
variable {p : Program} {l : Launch} {e : Env} {s : State} {m : MethodId} {args : Array Value} {below : List Frame} {meth : Method} {c : Code}
/-- the machine at a place of a method of the reference, in a state that holds σ, comes to its end -/
def rG (p : Program) (l : Launch) (e : Env) (s : State) (m : MethodId) (args : Array Value) (below : List Frame) (meth : Method) (c : Code) (lev nL : Nat) (D : va_G) (h : Nat) (ad : Nat → Nat) (cA : Nat → ClassId) (σ0 : RS) (Z : Option Value → RS → Prop) : RK := fun pc ls st σ =>
  ∀ (H : Heap) (locs : List Loc) (a : Array Slot), lv_has a nL (rlm h ad ls) → va_P D vwCl (RW h ad cA σ) H → va_D (va_A (RW h ad cA σ0) s.heap.size) (RW h ad cA σ) → va_S (va_A (RW h ad cA σ0) s.heap.size) s.heap H locs →
    W p l e { frames := lev, cells := 0, slots := 0, locals := 100 * lev } s m args below meth c H locs 0 0 (MQ below (rQc D h ad cA σ0 s.heap.size Z) args s 0 0 (va_A (RW h ad cA σ0) s.heap.size)) (F0 m pc a (st.map (rcv h ad)))
/-- what a method's walk rests on -/
def rE (p : Program) (s : State) (m : MethodId) (args : Array Value) (meth : Method) (c : Code) (cc : ByteArray) (nL : Nat) (ret : Option FieldType) (D : va_G) (cA : Nat → ClassId) (Ts : List Jvm.Cond) : Prop :=
  p.tables.exec = Jvm.exec ∧ c.code = cc ∧ c.maxLocals = nL ∧ meth.sig.returnType = ret ∧ meth.locks = false ∧ s.vm.findClass RX12 = some m.cls ∧ (∀ w ∈ Ts, w.before args s = true) ∧ (∀ w ∈ wG, w ∈ Ts) ∧ va_K D vwCl (RT cA) s
set_option maxHeartbeats 4000000 in
theorem rst_ok {lev nL : Nat} {cc : ByteArray} {ret : Option FieldType} {D : va_G} {h : Nat} {ad : Nat → Nat} {cA : Nat → ClassId} {σ0 : RS} {Z : Option Value → RS → Prop} {Ts : List Jvm.Cond} {ct : RC} {K k : RK}
    (hE : rE p s m args meth c cc nL ret D cA Ts) (hct : ∀ q ∈ ct, ∃ lv, lv < lev ∧ RMet l lv q.1 q.2.1 q.2.2)
    (hK : ∀ pc ls st σ, K pc ls st σ → rG p l e s m args below meth c lev nL D h ad cA σ0 Z pc ls st σ)
    {x : RI} {pc : Nat} (hok : rok cc nL ret x pc = true) (hk : ∀ ls st σ, k (pc + x.2.1) ls st σ → rG p l e s m args below meth c lev nL D h ad cA σ0 Z (pc + x.2.1) ls st σ)
    {ls : RL} {st : List Value} {σ : RS} (hw : rst ct K Z x pc ls st σ k) : rG p l e s m args below meth c lev nL D h ad cA σ0 Z pc ls st σ := by sorry
theorem rwp_ok {lev nL : Nat} {cc : ByteArray} {ret : Option FieldType} {D : va_G} {h : Nat} {ad : Nat → Nat} {cA : Nat → ClassId} {σ0 : RS} {Z : Option Value → RS → Prop} {Ts : List Jvm.Cond} {ct : RC} {K : RK}
    (hE : rE p s m args meth c cc nL ret D cA Ts) (hct : ∀ q ∈ ct, ∃ lv, lv < lev ∧ RMet l lv q.1 q.2.1 q.2.2)
    (hK : ∀ pc ls st σ, K pc ls st σ → rG p l e s m args below meth c lev nL D h ad cA σ0 Z pc ls st σ)
    (is : List RI) : ∀ (pc : Nat), rokB cc nL ret is pc = true → ∀ (ls : RL) (st : List Value) (σ : RS), rwp ct K Z is pc ls st σ → rG p l e s m args below meth c lev nL D h ad cA σ0 Z pc ls st σ := by sorry
/-- the blocks of a method -/
abbrev RB : Type := List (Nat × List RI)
def rokM (cc : ByteArray) (nL : Nat) (ret : Option FieldType) (bs : RB) : Bool := bs.all (fun b => rokB cc nL ret b.2 b.1)
/-- a method's contract out of its blocks: G is whatever holds at a block's beginning as soon as the block's own predicate does -/
theorem RMet.of {lev μ : Nat} {P : RP} {Q : RQ} {r : RM} (bs : RB) (ct : RC) (hr : mtab[μ]? = some r) (hok : rokM r.2.1 r.2.2.1 r.2.2.2.1 bs = true) (hct : ∀ q ∈ ct, ∃ lv, lv < lev ∧ RMet l lv q.1 q.2.1 q.2.2)
    (hlen : ∀ (As : List Value) (σ : RS), P As σ → (lg_sl (.ref 1000 :: As)).length ≤ r.2.2.1)
    (body : ∀ (As : List Value) (σ : RS), P As σ → ∀ G : RK, (∀ b ∈ bs, ∀ (ls : RL) (st : List Value) (τ : RS), rwp ct G (Q As σ) b.2 b.1 ls st τ → G b.1 ls st τ) → (∀ (pc : Nat) (ls ls' : RL) (st : List Value) (τ : RS), (∀ q ∈ ls, q ∈ ls') → G pc ls st τ → G pc ls' st τ) → G 0 (lv_args 0 (.ref 1000 :: As)) [] σ) : RMet l lev μ P Q := by sorry
end RSO
/-! decode, by the bytes that it reads -/
def rdN (code : ByteArray) (p : Nat) : Option Nat := if h : p < code.size then some code[p].toNat else none
theorem rd_bind {α β : Type} {x : Decoder α} {f : α → Decoder β} {code : ByteArray} {p p' : Nat} {a : α} (h : x code p = .ok (a, p')) : (x >>= f) code p = f a code p' := by sorry
theorem u1_run {code : ByteArray} {p b : Nat} (h : rdN code p = some b) : (Reader.u1 : Decoder Nat) code p = .ok (b, p + 1) := by sorry
theorem u2_run {code : ByteArray} {p a b : Nat} (h1 : rdN code p = some a) (h2 : rdN code (p + 1) = some b) : (Reader.u2 : Decoder Nat) code p = .ok (a * 256 + b, p + 2) := by sorry
theorem s1_run {code : ByteArray} {p a : Nat} (h1 : rdN code p = some a) : (Reader.s1 : Decoder Int) code p = .ok (Reader.signed 8 a, p + 1) := by sorry
theorem s2_run {code : ByteArray} {p a b : Nat} (h1 : rdN code p = some a) (h2 : rdN code (p + 1) = some b) : (Reader.s2 : Decoder Int) code p = .ok (Reader.signed 16 (a * 256 + b), p + 2) := by sorry
theorem dec_of {code : ByteArray} {pc nx : Nat} {i : Instr} (h : Decoder.instr pc code pc = .ok (i, nx)) : decode code pc = .ok (i, nx - pc) := by sorry
set_option maxRecDepth 100000 in
theorem dc_2 {code : ByteArray} {pc : Nat} (h : rdN code pc = some 2) : decode code pc = .ok (.iconst (-1), 1) := by sorry
set_option maxRecDepth 100000 in
theorem dc_3 {code : ByteArray} {pc : Nat} (h : rdN code pc = some 3) : decode code pc = .ok (.iconst 0, 1) := by sorry
set_option maxRecDepth 100000 in
theorem dc_4 {code : ByteArray} {pc : Nat} (h : rdN code pc = some 4) : decode code pc = .ok (.iconst 1, 1) := by sorry
set_option maxRecDepth 100000 in
theorem dc_5 {code : ByteArray} {pc : Nat} (h : rdN code pc = some 5) : decode code pc = .ok (.iconst 2, 1) := by sorry
set_option maxRecDepth 100000 in
theorem dc_6 {code : ByteArray} {pc : Nat} (h : rdN code pc = some 6) : decode code pc = .ok (.iconst 3, 1) := by sorry
set_option maxRecDepth 100000 in
theorem dc_7 {code : ByteArray} {pc : Nat} (h : rdN code pc = some 7) : decode code pc = .ok (.iconst 4, 1) := by sorry
set_option maxRecDepth 100000 in
theorem dc_8 {code : ByteArray} {pc : Nat} (h : rdN code pc = some 8) : decode code pc = .ok (.iconst 5, 1) := by sorry
set_option maxRecDepth 100000 in
theorem dc_9 {code : ByteArray} {pc : Nat} (h : rdN code pc = some 9) : decode code pc = .ok (.lconst 0, 1) := by sorry
set_option maxRecDepth 100000 in
theorem dc_10 {code : ByteArray} {pc : Nat} (h : rdN code pc = some 10) : decode code pc = .ok (.lconst 1, 1) := by sorry
set_option maxRecDepth 100000 in
theorem dc_26 {code : ByteArray} {pc : Nat} (h : rdN code pc = some 26) : decode code pc = .ok (.iload_n 0, 1) := by sorry
set_option maxRecDepth 100000 in
theorem dc_27 {code : ByteArray} {pc : Nat} (h : rdN code pc = some 27) : decode code pc = .ok (.iload_n 1, 1) := by sorry
set_option maxRecDepth 100000 in
theorem dc_28 {code : ByteArray} {pc : Nat} (h : rdN code pc = some 28) : decode code pc = .ok (.iload_n 2, 1) := by sorry
set_option maxRecDepth 100000 in
theorem dc_29 {code : ByteArray} {pc : Nat} (h : rdN code pc = some 29) : decode code pc = .ok (.iload_n 3, 1) := by sorry
set_option maxRecDepth 100000 in
theorem dc_30 {code : ByteArray} {pc : Nat} (h : rdN code pc = some 30) : decode code pc = .ok (.lload_n 0, 1) := by sorry
set_option maxRecDepth 100000 in
theorem dc_31 {code : ByteArray} {pc : Nat} (h : rdN code pc = some 31) : decode code pc = .ok (.lload_n 1, 1) := by sorry
set_option maxRecDepth 100000 in
theorem dc_32 {code : ByteArray} {pc : Nat} (h : rdN code pc = some 32) : decode code pc = .ok (.lload_n 2, 1) := by sorry
set_option maxRecDepth 100000 in
theorem dc_33 {code : ByteArray} {pc : Nat} (h : rdN code pc = some 33) : decode code pc = .ok (.lload_n 3, 1) := by sorry
set_option maxRecDepth 100000 in
theorem dc_42 {code : ByteArray} {pc : Nat} (h : rdN code pc = some 42) : decode code pc = .ok (.aload_n 0, 1) := by sorry
set_option maxRecDepth 100000 in
theorem dc_43 {code : ByteArray} {pc : Nat} (h : rdN code pc = some 43) : decode code pc = .ok (.aload_n 1, 1) := by sorry
set_option maxRecDepth 100000 in
theorem dc_44 {code : ByteArray} {pc : Nat} (h : rdN code pc = some 44) : decode code pc = .ok (.aload_n 2, 1) := by sorry
set_option maxRecDepth 100000 in
theorem dc_45 {code : ByteArray} {pc : Nat} (h : rdN code pc = some 45) : decode code pc = .ok (.aload_n 3, 1) := by sorry
set_option maxRecDepth 100000 in
theorem dc_59 {code : ByteArray} {pc : Nat} (h : rdN code pc = some 59) : decode code pc = .ok (.istore_n 0, 1) := by sorry
set_option maxRecDepth 100000 in
theorem dc_60 {code : ByteArray} {pc : Nat} (h : rdN code pc = some 60) : decode code pc = .ok (.istore_n 1, 1) := by sorry
set_option maxRecDepth 100000 in
theorem dc_61 {code : ByteArray} {pc : Nat} (h : rdN code pc = some 61) : decode code pc = .ok (.istore_n 2, 1) := by sorry
set_option maxRecDepth 100000 in
theorem dc_62 {code : ByteArray} {pc : Nat} (h : rdN code pc = some 62) : decode code pc = .ok (.istore_n 3, 1) := by sorry
set_option maxRecDepth 100000 in
theorem dc_63 {code : ByteArray} {pc : Nat} (h : rdN code pc = some 63) : decode code pc = .ok (.lstore_n 0, 1) := by sorry
set_option maxRecDepth 100000 in
theorem dc_64 {code : ByteArray} {pc : Nat} (h : rdN code pc = some 64) : decode code pc = .ok (.lstore_n 1, 1) := by sorry
set_option maxRecDepth 100000 in
theorem dc_65 {code : ByteArray} {pc : Nat} (h : rdN code pc = some 65) : decode code pc = .ok (.lstore_n 2, 1) := by sorry
set_option maxRecDepth 100000 in
theorem dc_66 {code : ByteArray} {pc : Nat} (h : rdN code pc = some 66) : decode code pc = .ok (.lstore_n 3, 1) := by sorry
set_option maxRecDepth 100000 in
theorem dc_75 {code : ByteArray} {pc : Nat} (h : rdN code pc = some 75) : decode code pc = .ok (.astore_n 0, 1) := by sorry
set_option maxRecDepth 100000 in
theorem dc_76 {code : ByteArray} {pc : Nat} (h : rdN code pc = some 76) : decode code pc = .ok (.astore_n 1, 1) := by sorry
set_option maxRecDepth 100000 in
theorem dc_77 {code : ByteArray} {pc : Nat} (h : rdN code pc = some 77) : decode code pc = .ok (.astore_n 2, 1) := by sorry
set_option maxRecDepth 100000 in
theorem dc_78 {code : ByteArray} {pc : Nat} (h : rdN code pc = some 78) : decode code pc = .ok (.astore_n 3, 1) := by sorry
set_option maxRecDepth 100000 in
theorem dc_1 {code : ByteArray} {pc : Nat} (h : rdN code pc = some 1) : decode code pc = .ok (.aconst_null, 1) := by sorry
set_option maxRecDepth 100000 in
theorem dc_46 {code : ByteArray} {pc : Nat} (h : rdN code pc = some 46) : decode code pc = .ok (.iaload, 1) := by sorry
set_option maxRecDepth 100000 in
theorem dc_47 {code : ByteArray} {pc : Nat} (h : rdN code pc = some 47) : decode code pc = .ok (.laload, 1) := by sorry
set_option maxRecDepth 100000 in
theorem dc_50 {code : ByteArray} {pc : Nat} (h : rdN code pc = some 50) : decode code pc = .ok (.aaload, 1) := by sorry
set_option maxRecDepth 100000 in
theorem dc_51 {code : ByteArray} {pc : Nat} (h : rdN code pc = some 51) : decode code pc = .ok (.baload, 1) := by sorry
set_option maxRecDepth 100000 in
theorem dc_52 {code : ByteArray} {pc : Nat} (h : rdN code pc = some 52) : decode code pc = .ok (.caload, 1) := by sorry
set_option maxRecDepth 100000 in
theorem dc_79 {code : ByteArray} {pc : Nat} (h : rdN code pc = some 79) : decode code pc = .ok (.iastore, 1) := by sorry
set_option maxRecDepth 100000 in
theorem dc_80 {code : ByteArray} {pc : Nat} (h : rdN code pc = some 80) : decode code pc = .ok (.lastore, 1) := by sorry
set_option maxRecDepth 100000 in
theorem dc_83 {code : ByteArray} {pc : Nat} (h : rdN code pc = some 83) : decode code pc = .ok (.aastore, 1) := by sorry
set_option maxRecDepth 100000 in
theorem dc_84 {code : ByteArray} {pc : Nat} (h : rdN code pc = some 84) : decode code pc = .ok (.bastore, 1) := by sorry
set_option maxRecDepth 100000 in
theorem dc_85 {code : ByteArray} {pc : Nat} (h : rdN code pc = some 85) : decode code pc = .ok (.castore, 1) := by sorry
set_option maxRecDepth 100000 in
theorem dc_87 {code : ByteArray} {pc : Nat} (h : rdN code pc = some 87) : decode code pc = .ok (.pop, 1) := by sorry
set_option maxRecDepth 100000 in
theorem dc_88 {code : ByteArray} {pc : Nat} (h : rdN code pc = some 88) : decode code pc = .ok (.pop2, 1) := by sorry
set_option maxRecDepth 100000 in
theorem dc_89 {code : ByteArray} {pc : Nat} (h : rdN code pc = some 89) : decode code pc = .ok (.dup, 1) := by sorry
set_option maxRecDepth 100000 in
theorem dc_90 {code : ByteArray} {pc : Nat} (h : rdN code pc = some 90) : decode code pc = .ok (.dup_x1, 1) := by sorry
set_option maxRecDepth 100000 in
theorem dc_91 {code : ByteArray} {pc : Nat} (h : rdN code pc = some 91) : decode code pc = .ok (.dup_x2, 1) := by sorry
set_option maxRecDepth 100000 in
theorem dc_92 {code : ByteArray} {pc : Nat} (h : rdN code pc = some 92) : decode code pc = .ok (.dup2, 1) := by sorry
set_option maxRecDepth 100000 in
theorem dc_93 {code : ByteArray} {pc : Nat} (h : rdN code pc = some 93) : decode code pc = .ok (.dup2_x1, 1) := by sorry
set_option maxRecDepth 100000 in
theorem dc_94 {code : ByteArray} {pc : Nat} (h : rdN code pc = some 94) : decode code pc = .ok (.dup2_x2, 1) := by sorry
set_option maxRecDepth 100000 in
theorem dc_96 {code : ByteArray} {pc : Nat} (h : rdN code pc = some 96) : decode code pc = .ok (.iadd, 1) := by sorry
set_option maxRecDepth 100000 in
theorem dc_97 {code : ByteArray} {pc : Nat} (h : rdN code pc = some 97) : decode code pc = .ok (.ladd, 1) := by sorry
set_option maxRecDepth 100000 in
theorem dc_100 {code : ByteArray} {pc : Nat} (h : rdN code pc = some 100) : decode code pc = .ok (.isub, 1) := by sorry
set_option maxRecDepth 100000 in
theorem dc_101 {code : ByteArray} {pc : Nat} (h : rdN code pc = some 101) : decode code pc = .ok (.lsub, 1) := by sorry
set_option maxRecDepth 100000 in
theorem dc_104 {code : ByteArray} {pc : Nat} (h : rdN code pc = some 104) : decode code pc = .ok (.imul, 1) := by sorry
set_option maxRecDepth 100000 in
theorem dc_105 {code : ByteArray} {pc : Nat} (h : rdN code pc = some 105) : decode code pc = .ok (.lmul, 1) := by sorry
set_option maxRecDepth 100000 in
theorem dc_108 {code : ByteArray} {pc : Nat} (h : rdN code pc = some 108) : decode code pc = .ok (.idiv, 1) := by sorry
set_option maxRecDepth 100000 in
theorem dc_109 {code : ByteArray} {pc : Nat} (h : rdN code pc = some 109) : decode code pc = .ok (.ldiv, 1) := by sorry
set_option maxRecDepth 100000 in
theorem dc_112 {code : ByteArray} {pc : Nat} (h : rdN code pc = some 112) : decode code pc = .ok (.irem, 1) := by sorry
set_option maxRecDepth 100000 in
theorem dc_113 {code : ByteArray} {pc : Nat} (h : rdN code pc = some 113) : decode code pc = .ok (.lrem, 1) := by sorry
set_option maxRecDepth 100000 in
theorem dc_116 {code : ByteArray} {pc : Nat} (h : rdN code pc = some 116) : decode code pc = .ok (.ineg, 1) := by sorry
set_option maxRecDepth 100000 in
theorem dc_117 {code : ByteArray} {pc : Nat} (h : rdN code pc = some 117) : decode code pc = .ok (.lneg, 1) := by sorry
set_option maxRecDepth 100000 in
theorem dc_120 {code : ByteArray} {pc : Nat} (h : rdN code pc = some 120) : decode code pc = .ok (.ishl, 1) := by sorry
set_option maxRecDepth 100000 in
theorem dc_121 {code : ByteArray} {pc : Nat} (h : rdN code pc = some 121) : decode code pc = .ok (.lshl, 1) := by sorry
set_option maxRecDepth 100000 in
theorem dc_122 {code : ByteArray} {pc : Nat} (h : rdN code pc = some 122) : decode code pc = .ok (.ishr, 1) := by sorry
set_option maxRecDepth 100000 in
theorem dc_123 {code : ByteArray} {pc : Nat} (h : rdN code pc = some 123) : decode code pc = .ok (.lshr, 1) := by sorry
set_option maxRecDepth 100000 in
theorem dc_124 {code : ByteArray} {pc : Nat} (h : rdN code pc = some 124) : decode code pc = .ok (.iushr, 1) := by sorry
set_option maxRecDepth 100000 in
theorem dc_125 {code : ByteArray} {pc : Nat} (h : rdN code pc = some 125) : decode code pc = .ok (.lushr, 1) := by sorry
set_option maxRecDepth 100000 in
theorem dc_126 {code : ByteArray} {pc : Nat} (h : rdN code pc = some 126) : decode code pc = .ok (.iand, 1) := by sorry
set_option maxRecDepth 100000 in
theorem dc_127 {code : ByteArray} {pc : Nat} (h : rdN code pc = some 127) : decode code pc = .ok (.land, 1) := by sorry
set_option maxRecDepth 100000 in
theorem dc_128 {code : ByteArray} {pc : Nat} (h : rdN code pc = some 128) : decode code pc = .ok (.ior, 1) := by sorry
set_option maxRecDepth 100000 in
theorem dc_129 {code : ByteArray} {pc : Nat} (h : rdN code pc = some 129) : decode code pc = .ok (.lor, 1) := by sorry
set_option maxRecDepth 100000 in
theorem dc_130 {code : ByteArray} {pc : Nat} (h : rdN code pc = some 130) : decode code pc = .ok (.ixor, 1) := by sorry
set_option maxRecDepth 100000 in
theorem dc_131 {code : ByteArray} {pc : Nat} (h : rdN code pc = some 131) : decode code pc = .ok (.lxor, 1) := by sorry
set_option maxRecDepth 100000 in
theorem dc_133 {code : ByteArray} {pc : Nat} (h : rdN code pc = some 133) : decode code pc = .ok (.i2l, 1) := by sorry
set_option maxRecDepth 100000 in
theorem dc_136 {code : ByteArray} {pc : Nat} (h : rdN code pc = some 136) : decode code pc = .ok (.l2i, 1) := by sorry
set_option maxRecDepth 100000 in
theorem dc_145 {code : ByteArray} {pc : Nat} (h : rdN code pc = some 145) : decode code pc = .ok (.i2b, 1) := by sorry
set_option maxRecDepth 100000 in
theorem dc_146 {code : ByteArray} {pc : Nat} (h : rdN code pc = some 146) : decode code pc = .ok (.i2c, 1) := by sorry
set_option maxRecDepth 100000 in
theorem dc_148 {code : ByteArray} {pc : Nat} (h : rdN code pc = some 148) : decode code pc = .ok (.lcmp, 1) := by sorry
set_option maxRecDepth 100000 in
theorem dc_172 {code : ByteArray} {pc : Nat} (h : rdN code pc = some 172) : decode code pc = .ok (.ireturn, 1) := by sorry
set_option maxRecDepth 100000 in
theorem dc_173 {code : ByteArray} {pc : Nat} (h : rdN code pc = some 173) : decode code pc = .ok (.lreturn, 1) := by sorry
set_option maxRecDepth 100000 in
theorem dc_176 {code : ByteArray} {pc : Nat} (h : rdN code pc = some 176) : decode code pc = .ok (.areturn, 1) := by sorry
set_option maxRecDepth 100000 in
theorem dc_177 {code : ByteArray} {pc : Nat} (h : rdN code pc = some 177) : decode code pc = .ok (.return_, 1) := by sorry
set_option maxRecDepth 100000 in
theorem dc_190 {code : ByteArray} {pc : Nat} (h : rdN code pc = some 190) : decode code pc = .ok (.arraylength, 1) := by sorry
set_option maxRecDepth 100000 in
theorem dc_18 {code : ByteArray} {pc a : Nat} (h : rdN code pc = some 18) (h1 : rdN code (pc + 1) = some a) : decode code pc = .ok (.ldc a, 2) := by sorry
set_option maxRecDepth 100000 in
theorem dc_21 {code : ByteArray} {pc a : Nat} (h : rdN code pc = some 21) (h1 : rdN code (pc + 1) = some a) : decode code pc = .ok (.iload a, 2) := by sorry
set_option maxRecDepth 100000 in
theorem dc_22 {code : ByteArray} {pc a : Nat} (h : rdN code pc = some 22) (h1 : rdN code (pc + 1) = some a) : decode code pc = .ok (.lload a, 2) := by sorry
set_option maxRecDepth 100000 in
theorem dc_25 {code : ByteArray} {pc a : Nat} (h : rdN code pc = some 25) (h1 : rdN code (pc + 1) = some a) : decode code pc = .ok (.aload a, 2) := by sorry
set_option maxRecDepth 100000 in
theorem dc_54 {code : ByteArray} {pc a : Nat} (h : rdN code pc = some 54) (h1 : rdN code (pc + 1) = some a) : decode code pc = .ok (.istore a, 2) := by sorry
set_option maxRecDepth 100000 in
theorem dc_55 {code : ByteArray} {pc a : Nat} (h : rdN code pc = some 55) (h1 : rdN code (pc + 1) = some a) : decode code pc = .ok (.lstore a, 2) := by sorry
set_option maxRecDepth 100000 in
theorem dc_58 {code : ByteArray} {pc a : Nat} (h : rdN code pc = some 58) (h1 : rdN code (pc + 1) = some a) : decode code pc = .ok (.astore a, 2) := by sorry
set_option maxRecDepth 100000 in
theorem dc_19 {code : ByteArray} {pc a b : Nat} (h : rdN code pc = some 19) (h1 : rdN code (pc + 1) = some a) (h2 : rdN code (pc + 1 + 1) = some b) : decode code pc = .ok (.ldc_w (a * 256 + b), 3) := by sorry
set_option maxRecDepth 100000 in
theorem dc_20 {code : ByteArray} {pc a b : Nat} (h : rdN code pc = some 20) (h1 : rdN code (pc + 1) = some a) (h2 : rdN code (pc + 1 + 1) = some b) : decode code pc = .ok (.ldc2_w (a * 256 + b), 3) := by sorry
set_option maxRecDepth 100000 in
theorem dc_178 {code : ByteArray} {pc a b : Nat} (h : rdN code pc = some 178) (h1 : rdN code (pc + 1) = some a) (h2 : rdN code (pc + 1 + 1) = some b) : decode code pc = .ok (.getstatic (a * 256 + b), 3) := by sorry
set_option maxRecDepth 100000 in
theorem dc_179 {code : ByteArray} {pc a b : Nat} (h : rdN code pc = some 179) (h1 : rdN code (pc + 1) = some a) (h2 : rdN code (pc + 1 + 1) = some b) : decode code pc = .ok (.putstatic (a * 256 + b), 3) := by sorry
set_option maxRecDepth 100000 in
theorem dc_180 {code : ByteArray} {pc a b : Nat} (h : rdN code pc = some 180) (h1 : rdN code (pc + 1) = some a) (h2 : rdN code (pc + 1 + 1) = some b) : decode code pc = .ok (.getfield (a * 256 + b), 3) := by sorry
set_option maxRecDepth 100000 in
theorem dc_181 {code : ByteArray} {pc a b : Nat} (h : rdN code pc = some 181) (h1 : rdN code (pc + 1) = some a) (h2 : rdN code (pc + 1 + 1) = some b) : decode code pc = .ok (.putfield (a * 256 + b), 3) := by sorry
set_option maxRecDepth 100000 in
theorem dc_182 {code : ByteArray} {pc a b : Nat} (h : rdN code pc = some 182) (h1 : rdN code (pc + 1) = some a) (h2 : rdN code (pc + 1 + 1) = some b) : decode code pc = .ok (.invokevirtual (a * 256 + b), 3) := by sorry
set_option maxRecDepth 100000 in
theorem dc_183 {code : ByteArray} {pc a b : Nat} (h : rdN code pc = some 183) (h1 : rdN code (pc + 1) = some a) (h2 : rdN code (pc + 1 + 1) = some b) : decode code pc = .ok (.invokespecial (a * 256 + b), 3) := by sorry
set_option maxRecDepth 100000 in
theorem dc_184 {code : ByteArray} {pc a b : Nat} (h : rdN code pc = some 184) (h1 : rdN code (pc + 1) = some a) (h2 : rdN code (pc + 1 + 1) = some b) : decode code pc = .ok (.invokestatic (a * 256 + b), 3) := by sorry
set_option maxRecDepth 100000 in
theorem dc_187 {code : ByteArray} {pc a b : Nat} (h : rdN code pc = some 187) (h1 : rdN code (pc + 1) = some a) (h2 : rdN code (pc + 1 + 1) = some b) : decode code pc = .ok (.new (a * 256 + b), 3) := by sorry
set_option maxRecDepth 100000 in
theorem dc_189 {code : ByteArray} {pc a b : Nat} (h : rdN code pc = some 189) (h1 : rdN code (pc + 1) = some a) (h2 : rdN code (pc + 1 + 1) = some b) : decode code pc = .ok (.anewarray (a * 256 + b), 3) := by sorry
set_option maxRecDepth 100000 in
theorem dc_192 {code : ByteArray} {pc a b : Nat} (h : rdN code pc = some 192) (h1 : rdN code (pc + 1) = some a) (h2 : rdN code (pc + 1 + 1) = some b) : decode code pc = .ok (.checkcast (a * 256 + b), 3) := by sorry
set_option maxRecDepth 100000 in
theorem dc_193 {code : ByteArray} {pc a b : Nat} (h : rdN code pc = some 193) (h1 : rdN code (pc + 1) = some a) (h2 : rdN code (pc + 1 + 1) = some b) : decode code pc = .ok (.instanceof (a * 256 + b), 3) := by sorry
set_option maxRecDepth 100000 in
theorem dc_17 {code : ByteArray} {pc a b : Nat} (h : rdN code pc = some 17) (h1 : rdN code (pc + 1) = some a) (h2 : rdN code (pc + 1 + 1) = some b) : decode code pc = .ok (.sipush (Reader.signed 16 (a * 256 + b)), 3) := by sorry
set_option maxRecDepth 100000 in
theorem dc_167 {code : ByteArray} {pc a b : Nat} (h : rdN code pc = some 167) (h1 : rdN code (pc + 1) = some a) (h2 : rdN code (pc + 1 + 1) = some b) : decode code pc = .ok (.goto (Reader.signed 16 (a * 256 + b)), 3) := by sorry
set_option maxRecDepth 100000 in
theorem dc_198 {code : ByteArray} {pc a b : Nat} (h : rdN code pc = some 198) (h1 : rdN code (pc + 1) = some a) (h2 : rdN code (pc + 1 + 1) = some b) : decode code pc = .ok (.ifnull (Reader.signed 16 (a * 256 + b)), 3) := by sorry
set_option maxRecDepth 100000 in
theorem dc_199 {code : ByteArray} {pc a b : Nat} (h : rdN code pc = some 199) (h1 : rdN code (pc + 1) = some a) (h2 : rdN code (pc + 1 + 1) = some b) : decode code pc = .ok (.ifnonnull (Reader.signed 16 (a * 256 + b)), 3) := by sorry
set_option maxRecDepth 100000 in
theorem dc_153 {code : ByteArray} {pc a b : Nat} (h : rdN code pc = some 153) (h1 : rdN code (pc + 1) = some a) (h2 : rdN code (pc + 1 + 1) = some b) : decode code pc = .ok (.ifCond .eq (Reader.signed 16 (a * 256 + b)), 3) := by sorry
set_option maxRecDepth 100000 in
theorem dc_154 {code : ByteArray} {pc a b : Nat} (h : rdN code pc = some 154) (h1 : rdN code (pc + 1) = some a) (h2 : rdN code (pc + 1 + 1) = some b) : decode code pc = .ok (.ifCond .ne (Reader.signed 16 (a * 256 + b)), 3) := by sorry
set_option maxRecDepth 100000 in
theorem dc_155 {code : ByteArray} {pc a b : Nat} (h : rdN code pc = some 155) (h1 : rdN code (pc + 1) = some a) (h2 : rdN code (pc + 1 + 1) = some b) : decode code pc = .ok (.ifCond .lt (Reader.signed 16 (a * 256 + b)), 3) := by sorry
set_option maxRecDepth 100000 in
theorem dc_156 {code : ByteArray} {pc a b : Nat} (h : rdN code pc = some 156) (h1 : rdN code (pc + 1) = some a) (h2 : rdN code (pc + 1 + 1) = some b) : decode code pc = .ok (.ifCond .ge (Reader.signed 16 (a * 256 + b)), 3) := by sorry
set_option maxRecDepth 100000 in
theorem dc_157 {code : ByteArray} {pc a b : Nat} (h : rdN code pc = some 157) (h1 : rdN code (pc + 1) = some a) (h2 : rdN code (pc + 1 + 1) = some b) : decode code pc = .ok (.ifCond .gt (Reader.signed 16 (a * 256 + b)), 3) := by sorry
set_option maxRecDepth 100000 in
theorem dc_158 {code : ByteArray} {pc a b : Nat} (h : rdN code pc = some 158) (h1 : rdN code (pc + 1) = some a) (h2 : rdN code (pc + 1 + 1) = some b) : decode code pc = .ok (.ifCond .le (Reader.signed 16 (a * 256 + b)), 3) := by sorry
set_option maxRecDepth 100000 in
theorem dc_159 {code : ByteArray} {pc a b : Nat} (h : rdN code pc = some 159) (h1 : rdN code (pc + 1) = some a) (h2 : rdN code (pc + 1 + 1) = some b) : decode code pc = .ok (.if_icmp .eq (Reader.signed 16 (a * 256 + b)), 3) := by sorry
set_option maxRecDepth 100000 in
theorem dc_160 {code : ByteArray} {pc a b : Nat} (h : rdN code pc = some 160) (h1 : rdN code (pc + 1) = some a) (h2 : rdN code (pc + 1 + 1) = some b) : decode code pc = .ok (.if_icmp .ne (Reader.signed 16 (a * 256 + b)), 3) := by sorry
set_option maxRecDepth 100000 in
theorem dc_161 {code : ByteArray} {pc a b : Nat} (h : rdN code pc = some 161) (h1 : rdN code (pc + 1) = some a) (h2 : rdN code (pc + 1 + 1) = some b) : decode code pc = .ok (.if_icmp .lt (Reader.signed 16 (a * 256 + b)), 3) := by sorry
set_option maxRecDepth 100000 in
theorem dc_162 {code : ByteArray} {pc a b : Nat} (h : rdN code pc = some 162) (h1 : rdN code (pc + 1) = some a) (h2 : rdN code (pc + 1 + 1) = some b) : decode code pc = .ok (.if_icmp .ge (Reader.signed 16 (a * 256 + b)), 3) := by sorry
set_option maxRecDepth 100000 in
theorem dc_163 {code : ByteArray} {pc a b : Nat} (h : rdN code pc = some 163) (h1 : rdN code (pc + 1) = some a) (h2 : rdN code (pc + 1 + 1) = some b) : decode code pc = .ok (.if_icmp .gt (Reader.signed 16 (a * 256 + b)), 3) := by sorry
set_option maxRecDepth 100000 in
theorem dc_164 {code : ByteArray} {pc a b : Nat} (h : rdN code pc = some 164) (h1 : rdN code (pc + 1) = some a) (h2 : rdN code (pc + 1 + 1) = some b) : decode code pc = .ok (.if_icmp .le (Reader.signed 16 (a * 256 + b)), 3) := by sorry
set_option maxRecDepth 100000 in
theorem dc_165 {code : ByteArray} {pc a b : Nat} (h : rdN code pc = some 165) (h1 : rdN code (pc + 1) = some a) (h2 : rdN code (pc + 1 + 1) = some b) : decode code pc = .ok (.if_acmp .eq (Reader.signed 16 (a * 256 + b)), 3) := by sorry
set_option maxRecDepth 100000 in
theorem dc_166 {code : ByteArray} {pc a b : Nat} (h : rdN code pc = some 166) (h1 : rdN code (pc + 1) = some a) (h2 : rdN code (pc + 1 + 1) = some b) : decode code pc = .ok (.if_acmp .ne (Reader.signed 16 (a * 256 + b)), 3) := by sorry
set_option maxRecDepth 100000 in
theorem dc_16 {code : ByteArray} {pc a : Nat} (h : rdN code pc = some 16) (h1 : rdN code (pc + 1) = some a) : decode code pc = .ok (.bipush (Reader.signed 8 a), 2) := by sorry
set_option maxRecDepth 100000 in
theorem dc_132 {code : ByteArray} {pc a b : Nat} (h : rdN code pc = some 132) (h1 : rdN code (pc + 1) = some a) (h2 : rdN code (pc + 1 + 1) = some b) : decode code pc = .ok (.iinc a (Reader.signed 8 b), 3) := by sorry
def codeL (code : ByteArray) : List Nat := code.data.toList.map (fun x => x.toNat)
theorem rdN_codeL {code : ByteArray} {p : Nat} : rdN code p = (codeL code)[p]? := by sorry
/-- does an instruction stand at the beginning of a row of bytes -/
def mtI (i : Instr) (bs : List Nat) : Nat := match bs with
  | [] => 0
  | b0 :: r0 => match i with
    | .iconst n => if n + 3 = (b0 : Int) ∧ b0 ≤ 8 ∧ 2 ≤ b0 then 1 else 0
    | .lconst n => if (n : Nat) + 9 = b0 then 1 else 0
    | .iload_n n => if (n : Nat) + 26 = b0 then 1 else 0
    | .lload_n n => if (n : Nat) + 30 = b0 then 1 else 0
    | .aload_n n => if (n : Nat) + 42 = b0 then 1 else 0
    | .istore_n n => if (n : Nat) + 59 = b0 then 1 else 0
    | .lstore_n n => if (n : Nat) + 63 = b0 then 1 else 0
    | .astore_n n => if (n : Nat) + 75 = b0 then 1 else 0
    | .aconst_null => if b0 = 1 then 1 else 0
    | .iaload => if b0 = 46 then 1 else 0
    | .laload => if b0 = 47 then 1 else 0
    | .aaload => if b0 = 50 then 1 else 0
    | .baload => if b0 = 51 then 1 else 0
    | .caload => if b0 = 52 then 1 else 0
    | .iastore => if b0 = 79 then 1 else 0
    | .lastore => if b0 = 80 then 1 else 0
    | .aastore => if b0 = 83 then 1 else 0
    | .bastore => if b0 = 84 then 1 else 0
    | .castore => if b0 = 85 then 1 else 0
    | .pop => if b0 = 87 then 1 else 0
    | .pop2 => if b0 = 88 then 1 else 0
    | .dup => if b0 = 89 then 1 else 0
    | .dup_x1 => if b0 = 90 then 1 else 0
    | .dup_x2 => if b0 = 91 then 1 else 0
    | .dup2 => if b0 = 92 then 1 else 0
    | .dup2_x1 => if b0 = 93 then 1 else 0
    | .dup2_x2 => if b0 = 94 then 1 else 0
    | .iadd => if b0 = 96 then 1 else 0
    | .ladd => if b0 = 97 then 1 else 0
    | .isub => if b0 = 100 then 1 else 0
    | .lsub => if b0 = 101 then 1 else 0
    | .imul => if b0 = 104 then 1 else 0
    | .lmul => if b0 = 105 then 1 else 0
    | .idiv => if b0 = 108 then 1 else 0
    | .ldiv => if b0 = 109 then 1 else 0
    | .irem => if b0 = 112 then 1 else 0
    | .lrem => if b0 = 113 then 1 else 0
    | .ineg => if b0 = 116 then 1 else 0
    | .lneg => if b0 = 117 then 1 else 0
    | .ishl => if b0 = 120 then 1 else 0
    | .lshl => if b0 = 121 then 1 else 0
    | .ishr => if b0 = 122 then 1 else 0
    | .lshr => if b0 = 123 then 1 else 0
    | .iushr => if b0 = 124 then 1 else 0
    | .lushr => if b0 = 125 then 1 else 0
    | .iand => if b0 = 126 then 1 else 0
    | .land => if b0 = 127 then 1 else 0
    | .ior => if b0 = 128 then 1 else 0
    | .lor => if b0 = 129 then 1 else 0
    | .ixor => if b0 = 130 then 1 else 0
    | .lxor => if b0 = 131 then 1 else 0
    | .i2l => if b0 = 133 then 1 else 0
    | .l2i => if b0 = 136 then 1 else 0
    | .i2b => if b0 = 145 then 1 else 0
    | .i2c => if b0 = 146 then 1 else 0
    | .lcmp => if b0 = 148 then 1 else 0
    | .ireturn => if b0 = 172 then 1 else 0
    | .lreturn => if b0 = 173 then 1 else 0
    | .areturn => if b0 = 176 then 1 else 0
    | .return_ => if b0 = 177 then 1 else 0
    | .arraylength => if b0 = 190 then 1 else 0
    | _ => match r0 with
      | [] => 0
      | b1 :: r1 => match i with
        | .bipush n => if b0 = 16 ∧ n = Reader.signed 8 b1 then 2 else 0
        | .ldc n => if b0 = 18 ∧ n = b1 then 2 else 0
        | .iload n => if b0 = 21 ∧ n = b1 then 2 else 0
        | .lload n => if b0 = 22 ∧ n = b1 then 2 else 0
        | .aload n => if b0 = 25 ∧ n = b1 then 2 else 0
        | .istore n => if b0 = 54 ∧ n = b1 then 2 else 0
        | .lstore n => if b0 = 55 ∧ n = b1 then 2 else 0
        | .astore n => if b0 = 58 ∧ n = b1 then 2 else 0
        | _ => match r1 with
          | [] => 0
          | b2 :: _ => match i with
            | .ldc_w n => if b0 = 19 ∧ n = b1 * 256 + b2 then 3 else 0
            | .ldc2_w n => if b0 = 20 ∧ n = b1 * 256 + b2 then 3 else 0
            | .getstatic n => if b0 = 178 ∧ n = b1 * 256 + b2 then 3 else 0
            | .putstatic n => if b0 = 179 ∧ n = b1 * 256 + b2 then 3 else 0
            | .getfield n => if b0 = 180 ∧ n = b1 * 256 + b2 then 3 else 0
            | .putfield n => if b0 = 181 ∧ n = b1 * 256 + b2 then 3 else 0
            | .invokevirtual n => if b0 = 182 ∧ n = b1 * 256 + b2 then 3 else 0
            | .invokespecial n => if b0 = 183 ∧ n = b1 * 256 + b2 then 3 else 0
            | .invokestatic n => if b0 = 184 ∧ n = b1 * 256 + b2 then 3 else 0
            | .new n => if b0 = 187 ∧ n = b1 * 256 + b2 then 3 else 0
            | .anewarray n => if b0 = 189 ∧ n = b1 * 256 + b2 then 3 else 0
            | .checkcast n => if b0 = 192 ∧ n = b1 * 256 + b2 then 3 else 0
            | .instanceof n => if b0 = 193 ∧ n = b1 * 256 + b2 then 3 else 0
            | .sipush n => if b0 = 17 ∧ n = Reader.signed 16 (b1 * 256 + b2) then 3 else 0
            | .goto n => if b0 = 167 ∧ n = Reader.signed 16 (b1 * 256 + b2) then 3 else 0
            | .ifnull n => if b0 = 198 ∧ n = Reader.signed 16 (b1 * 256 + b2) then 3 else 0
            | .ifnonnull n => if b0 = 199 ∧ n = Reader.signed 16 (b1 * 256 + b2) then 3 else 0
            | .ifCond .eq n => if b0 = 153 ∧ n = Reader.signed 16 (b1 * 256 + b2) then 3 else 0
            | .ifCond .ne n => if b0 = 154 ∧ n = Reader.signed 16 (b1 * 256 + b2) then 3 else 0
            | .ifCond .lt n => if b0 = 155 ∧ n = Reader.signed 16 (b1 * 256 + b2) then 3 else 0
            | .ifCond .ge n => if b0 = 156 ∧ n = Reader.signed 16 (b1 * 256 + b2) then 3 else 0
            | .ifCond .gt n => if b0 = 157 ∧ n = Reader.signed 16 (b1 * 256 + b2) then 3 else 0
            | .ifCond .le n => if b0 = 158 ∧ n = Reader.signed 16 (b1 * 256 + b2) then 3 else 0
            | .if_icmp .eq n => if b0 = 159 ∧ n = Reader.signed 16 (b1 * 256 + b2) then 3 else 0
            | .if_icmp .ne n => if b0 = 160 ∧ n = Reader.signed 16 (b1 * 256 + b2) then 3 else 0
            | .if_icmp .lt n => if b0 = 161 ∧ n = Reader.signed 16 (b1 * 256 + b2) then 3 else 0
            | .if_icmp .ge n => if b0 = 162 ∧ n = Reader.signed 16 (b1 * 256 + b2) then 3 else 0
            | .if_icmp .gt n => if b0 = 163 ∧ n = Reader.signed 16 (b1 * 256 + b2) then 3 else 0
            | .if_icmp .le n => if b0 = 164 ∧ n = Reader.signed 16 (b1 * 256 + b2) then 3 else 0
            | .if_acmp .eq n => if b0 = 165 ∧ n = Reader.signed 16 (b1 * 256 + b2) then 3 else 0
            | .if_acmp .ne n => if b0 = 166 ∧ n = Reader.signed 16 (b1 * 256 + b2) then 3 else 0
            | .iinc n d => if b0 = 132 ∧ n = b1 ∧ d = Reader.signed 8 b2 then 3 else 0
            | _ => 0
set_option maxRecDepth 100000 in
set_option maxHeartbeats 4000000 in
theorem mtI_ok {code : ByteArray} {pc : Nat} {i : Instr} {bs : List Nat} {n : Nat} (hb : ∀ j, rdN code (pc + j) = bs[j]?) (h : mtI i bs = n) (hn : n ≠ 0) : decode code pc = .ok (i, n) := by sorry
set_option maxRecDepth 100000 in
def fOf (i : Nat) : Nat := if i < 1000 then (if i < 237 then (if i < 123 then (if i < 66 then (if i < 39 then (if i < 22 then (if i < 16 then (if i < 13 then (if i = 7 then 0 else 9999) else (if i = 13 then 3 else 9999)) else (if i < 19 then (if i = 16 then 4 else 9999) else (if i = 19 then 5 else 9999))) else (if i < 29 then (if i < 25 then (if i = 22 then 6 else 9999) else (if i = 25 then 7 else 9999)) else (if i < 32 then (if i = 29 then 8 else 9999) else (if i < 35 then (if i = 32 then 9 else 9999) else (if i = 35 then 10 else 9999))))) else (if i < 51 then (if i < 45 then (if i < 42 then (if i = 39 then 11 else 9999) else (if i = 42 then 19 else 9999)) else (if i < 48 then (if i = 45 then 20 else 9999) else (if i = 48 then 21 else 9999))) else (if i < 57 then (if i < 54 then (if i = 51 then 22 else 9999) else (if i = 54 then 23 else 9999)) else (if i < 60 then (if i = 57 then 24 else 9999) else (if i < 63 then (if i = 60 then 25 else 9999) else (if i = 63 then 26 else 9999)))))) else (if i < 93 then (if i < 78 then (if i < 72 then (if i < 69 then (if i = 66 then 27 else 9999) else (if i = 69 then 28 else 9999)) else (if i < 75 then (if i = 72 then 30 else 9999) else (if i = 75 then 37 else 9999))) else (if i < 84 then (if i < 81 then (if i = 78 then 38 else 9999) else (if i = 81 then 39 else 9999)) else (if i < 87 then (if i = 84 then 40 else 9999) else (if i < 90 then (if i = 87 then 41 else 9999) else (if i = 90 then 43 else 9999))))) else (if i < 108 then (if i < 99 then (if i < 96 then (if i = 93 then 44 else 9999) else (if i = 96 then 45 else 9999)) else (if i < 102 then (if i = 99 then 46 else 9999) else (if i < 105 then (if i = 102 then 47 else 9999) else (if i = 105 then 48 else 9999)))) else (if i < 114 then (if i < 111 then (if i = 108 then 50 else 9999) else (if i = 111 then 51 else 9999)) else (if i < 117 then (if i = 114 then 52 else 9999) else (if i < 120 then (if i = 117 then 53 else 9999) else (if i = 120 then 54 else 9999))))))) else (if i < 180 then (if i < 150 then (if i < 135 then (if i < 129 then (if i < 126 then (if i = 123 then 55 else 9999) else (if i = 126 then 56 else 9999)) else (if i < 132 then (if i = 129 then 57 else 9999) else (if i = 132 then 58 else 9999))) else (if i < 141 then (if i < 138 then (if i = 135 then 59 else 9999) else (if i = 138 then 60 else 9999)) else (if i < 144 then (if i = 141 then 61 else 9999) else (if i < 147 then (if i = 144 then 63 else 9999) else (if i = 147 then 64 else 9999))))) else (if i < 165 then (if i < 156 then (if i < 153 then (if i = 150 then 65 else 9999) else (if i = 153 then 70 else 9999)) else (if i < 159 then (if i = 156 then 71 else 9999) else (if i < 162 then (if i = 159 then 72 else 9999) else (if i = 162 then 73 else 9999)))) else (if i < 171 then (if i < 168 then (if i = 165 then 75 else 9999) else (if i = 168 then 76 else 9999)) else (if i < 174 then (if i = 171 then 77 else 9999) else (if i < 177 then (if i = 174 then 78 else 9999) else (if i = 177 then 79 else 9999)))))) else (if i < 207 then (if i < 192 then (if i < 186 then (if i < 183 then (if i = 180 then 80 else 9999) else (if i = 183 then 81 else 9999)) else (if i < 189 then (if i = 186 then 82 else 9999) else (if i = 189 then 83 else 9999))) else (if i < 198 then (if i < 195 then (if i = 192 then 84 else 9999) else (if i = 195 then 85 else 9999)) else (if i < 201 then (if i = 198 then 86 else 9999) else (if i < 204 then (if i = 201 then 87 else 9999) else (if i = 204 then 88 else 9999))))) else (if i < 222 then (if i < 213 then (if i < 210 then (if i = 207 then 90 else 9999) else (if i = 210 then 95 else 9999)) else (if i < 216 then (if i = 213 then 96 else 9999) else (if i < 219 then (if i = 216 then 97 else 9999) else (if i = 219 then 98 else 9999)))) else (if i < 228 then (if i < 225 then (if i = 222 then 99 else 9999) else (if i = 225 then 101 else 9999)) else (if i < 231 then (if i = 228 then 102 else 9999) else (if i < 234 then (if i = 231 then 104 else 9999) else (if i = 234 then 105 else 9999)))))))) else (if i < 470 then (if i < 292 then (if i < 265 then (if i < 249 then (if i < 243 then (if i < 240 then (if i = 237 then 106 else 9999) else (if i = 240 then 107 else 9999)) else (if i < 246 then (if i = 243 then 108 else 9999) else (if i = 246 then 109 else 9999))) else (if i < 255 then (if i < 252 then (if i = 249 then 110 else 9999) else (if i = 252 then 111 else 9999)) else (if i < 258 then (if i = 255 then 118 else 9999) else (if i < 262 then (if i = 258 then 120 else 9999) else (if i = 262 then 122 else 9999))))) else (if i < 277 then (if i < 271 then (if i < 268 then (if i = 265 then 124 else 9999) else (if i = 268 then 125 else 9999)) else (if i < 274 then (if i = 271 then 126 else 9999) else (if i = 274 then 127 else 9999))) else (if i < 283 then (if i < 280 then (if i = 277 then 130 else 9999) else (if i = 280 then 131 else 9999)) else (if i < 286 then (if i = 283 then 132 else 9999) else (if i < 289 then (if i = 286 then 134 else 9999) else (if i = 289 then 135 else 9999)))))) else (if i < 323 then (if i < 304 then (if i < 298 then (if i < 295 then (if i = 292 then 136 else 9999) else (if i = 295 then 137 else 9999)) else (if i < 301 then (if i = 298 then 138 else 9999) else (if i = 301 then 139 else 9999))) else (if i < 310 then (if i < 307 then (if i = 304 then 140 else 9999) else (if i = 307 then 149 else 9999)) else (if i < 317 then (if i = 310 then 1 else 9999) else (if i < 320 then (if i = 317 then 12 else 9999) else (if i = 320 then 13 else 9999))))) else (if i < 433 then (if i < 410 then (if i < 407 then (if i = 323 then 2 else 9999) else (if i = 407 then 15 else 9999)) else (if i < 413 then (if i = 410 then 16 else 9999) else (if i < 430 then (if i = 413 then 14 else 9999) else (if i = 430 then 17 else 9999)))) else (if i < 443 then (if i < 440 then (if i = 433 then 18 else 9999) else (if i = 440 then 29 else 9999)) else (if i < 450 then (if i = 443 then 31 else 9999) else (if i < 454 then (if i = 450 then 34 else 9999) else (if i = 454 then 35 else 9999))))))) else (if i < 815 then (if i < 656 then (if i < 516 then (if i < 510 then (if i < 473 then (if i = 470 then 33 else 9999) else (if i = 473 then 32 else 9999)) else (if i < 513 then (if i = 510 then 49 else 9999) else (if i = 513 then 62 else 9999))) else (if i < 634 then (if i < 519 then (if i = 516 then 36 else 9999) else (if i = 519 then 42 else 9999)) else (if i < 637 then (if i = 634 then 66 else 9999) else (if i < 640 then (if i = 637 then 67 else 9999) else (if i = 640 then 89 else 9999))))) else (if i < 799 then (if i < 675 then (if i < 659 then (if i = 656 then 69 else 9999) else (if i = 659 then 74 else 9999)) else (if i < 790 then (if i = 675 then 68 else 9999) else (if i < 796 then (if i = 790 then 91 else 9999) else (if i = 796 then 112 else 9999)))) else (if i < 806 then (if i < 802 then (if i = 799 then 113 else 9999) else (if i = 802 then 93 else 9999)) else (if i < 809 then (if i = 806 then 94 else 9999) else (if i < 812 then (if i = 809 then 114 else 9999) else (if i = 812 then 103 else 9999)))))) else (if i < 904 then (if i < 853 then (if i < 830 then (if i < 818 then (if i = 815 then 100 else 9999) else (if i = 818 then 117 else 9999)) else (if i < 833 then (if i = 830 then 115 else 9999) else (if i = 833 then 92 else 9999))) else (if i < 878 then (if i < 875 then (if i = 853 then 116 else 9999) else (if i = 875 then 119 else 9999)) else (if i < 890 then (if i = 878 then 121 else 9999) else (if i < 901 then (if i = 890 then 123 else 9999) else (if i = 901 then 128 else 9999))))) else (if i < 919 then (if i < 910 then (if i < 907 then (if i = 904 then 144 else 9999) else (if i = 907 then 145 else 9999)) else (if i < 913 then (if i = 910 then 142 else 9999) else (if i < 916 then (if i = 913 then 129 else 9999) else (if i = 916 then 133 else 9999)))) else (if i < 937 then (if i < 925 then (if i = 919 then 141 else 9999) else (if i = 925 then 143 else 9999)) else (if i < 940 then (if i = 937 then 146 else 9999) else (if i < 943 then (if i = 940 then 147 else 9999) else (if i = 943 then 148 else 9999))))))))) else 9999
set_option maxRecDepth 100000 in
def mOf (i : Nat) : Nat := if i < 1000 then (if i < 672 then (if i < 538 then (if i < 463 then (if i < 349 then (if i < 337 then (if i < 330 then (if i < 326 then (if i = 313 then 1 else 9999) else (if i = 326 then 3 else 9999)) else (if i < 334 then (if i = 330 then 4 else 9999) else (if i = 334 then 7 else 9999))) else (if i < 343 then (if i < 340 then (if i = 337 then 5 else 9999) else (if i = 340 then 9 else 9999)) else (if i < 346 then (if i = 343 then 10 else 9999) else (if i = 346 then 11 else 9999)))) else (if i < 427 then (if i < 420 then (if i < 416 then (if i = 349 then 8 else 9999) else (if i = 416 then 12 else 9999)) else (if i < 423 then (if i = 420 then 14 else 9999) else (if i = 423 then 17 else 9999))) else (if i < 446 then (if i < 436 then (if i = 427 then 13 else 9999) else (if i = 436 then 20 else 9999)) else (if i < 457 then (if i = 446 then 29 else 9999) else (if i < 460 then (if i = 457 then 34 else 9999) else (if i = 460 then 30 else 9999)))))) else (if i < 498 then (if i < 482 then (if i < 476 then (if i < 466 then (if i = 463 then 15 else 9999) else (if i = 466 then 21 else 9999)) else (if i < 479 then (if i = 476 then 26 else 9999) else (if i = 479 then 19 else 9999))) else (if i < 489 then (if i < 486 then (if i = 482 then 25 else 9999) else (if i = 486 then 28 else 9999)) else (if i < 492 then (if i = 489 then 23 else 9999) else (if i < 495 then (if i = 492 then 18 else 9999) else (if i = 495 then 24 else 9999))))) else (if i < 522 then (if i < 504 then (if i < 501 then (if i = 498 then 31 else 9999) else (if i = 501 then 22 else 9999)) else (if i < 507 then (if i = 504 then 32 else 9999) else (if i = 507 then 33 else 9999))) else (if i < 529 then (if i < 525 then (if i = 522 then 38 else 9999) else (if i = 525 then 35 else 9999)) else (if i < 532 then (if i = 529 then 39 else 9999) else (if i < 535 then (if i = 532 then 36 else 9999) else (if i = 535 then 44 else 9999))))))) else (if i < 594 then (if i < 566 then (if i < 551 then (if i < 545 then (if i < 542 then (if i = 538 then 40 else 9999) else (if i = 542 then 43 else 9999)) else (if i < 548 then (if i = 545 then 67 else 9999) else (if i = 548 then 46 else 9999))) else (if i < 557 then (if i < 554 then (if i = 551 then 47 else 9999) else (if i = 554 then 49 else 9999)) else (if i < 560 then (if i = 557 then 60 else 9999) else (if i < 563 then (if i = 560 then 59 else 9999) else (if i = 563 then 45 else 9999))))) else (if i < 579 then (if i < 573 then (if i < 570 then (if i = 566 then 41 else 9999) else (if i = 570 then 48 else 9999)) else (if i < 576 then (if i = 573 then 27 else 9999) else (if i = 576 then 16 else 9999))) else (if i < 585 then (if i < 582 then (if i = 579 then 50 else 9999) else (if i = 582 then 53 else 9999)) else (if i < 588 then (if i = 585 then 54 else 9999) else (if i < 591 then (if i = 588 then 55 else 9999) else (if i = 591 then 57 else 9999)))))) else (if i < 622 then (if i < 606 then (if i < 600 then (if i < 597 then (if i = 594 then 58 else 9999) else (if i = 597 then 62 else 9999)) else (if i < 603 then (if i = 600 then 65 else 9999) else (if i = 603 then 66 else 9999))) else (if i < 612 then (if i < 609 then (if i = 606 then 51 else 9999) else (if i = 609 then 69 else 9999)) else (if i < 615 then (if i = 612 then 52 else 9999) else (if i < 618 then (if i = 615 then 56 else 9999) else (if i = 618 then 42 else 9999))))) else (if i < 649 then (if i < 628 then (if i < 625 then (if i = 622 then 61 else 9999) else (if i = 625 then 64 else 9999)) else (if i < 631 then (if i = 628 then 63 else 9999) else (if i = 631 then 68 else 9999))) else (if i < 662 then (if i < 652 then (if i = 649 then 73 else 9999) else (if i = 652 then 74 else 9999)) else (if i < 666 then (if i = 662 then 77 else 9999) else (if i < 669 then (if i = 666 then 79 else 9999) else (if i = 669 then 72 else 9999)))))))) else (if i < 821 then (if i < 730 then (if i < 703 then (if i < 687 then (if i < 681 then (if i < 678 then (if i = 672 then 70 else 9999) else (if i = 678 then 87 else 9999)) else (if i < 684 then (if i = 681 then 71 else 9999) else (if i = 684 then 88 else 9999))) else (if i < 697 then (if i < 690 then (if i = 687 then 105 else 9999) else (if i = 690 then 113 else 9999)) else (if i < 700 then (if i = 697 then 86 else 9999) else (if i = 700 then 84 else 9999)))) else (if i < 715 then (if i < 709 then (if i < 706 then (if i = 703 then 83 else 9999) else (if i = 706 then 89 else 9999)) else (if i < 712 then (if i = 709 then 78 else 9999) else (if i = 712 then 90 else 9999))) else (if i < 721 then (if i < 718 then (if i = 715 then 91 else 9999) else (if i = 718 then 92 else 9999)) else (if i < 724 then (if i = 721 then 95 else 9999) else (if i < 727 then (if i = 724 then 80 else 9999) else (if i = 727 then 98 else 9999)))))) else (if i < 766 then (if i < 745 then (if i < 736 then (if i < 733 then (if i = 730 then 100 else 9999) else (if i = 733 then 104 else 9999)) else (if i < 741 then (if i = 736 then 81 else 9999) else (if i = 741 then 76 else 9999))) else (if i < 752 then (if i < 748 then (if i = 745 then 94 else 9999) else (if i = 748 then 96 else 9999)) else (if i < 755 then (if i = 752 then 93 else 9999) else (if i < 763 then (if i = 755 then 97 else 9999) else (if i = 763 then 99 else 9999))))) else (if i < 778 then (if i < 772 then (if i < 769 then (if i = 766 then 75 else 9999) else (if i = 769 then 103 else 9999)) else (if i < 775 then (if i = 772 then 101 else 9999) else (if i = 775 then 102 else 9999))) else (if i < 784 then (if i < 781 then (if i = 778 then 85 else 9999) else (if i = 781 then 107 else 9999)) else (if i < 787 then (if i = 784 then 106 else 9999) else (if i < 793 then (if i = 787 then 108 else 9999) else (if i = 793 then 109 else 9999))))))) else (if i < 896 then (if i < 859 then (if i < 840 then (if i < 827 then (if i < 824 then (if i = 821 then 114 else 9999) else (if i = 824 then 117 else 9999)) else (if i < 836 then (if i = 827 then 121 else 9999) else (if i = 836 then 112 else 9999))) else (if i < 847 then (if i < 844 then (if i = 840 then 111 else 9999) else (if i = 844 then 115 else 9999)) else (if i < 850 then (if i = 847 then 116 else 9999) else (if i < 856 then (if i = 850 then 118 else 9999) else (if i = 856 then 110 else 9999))))) else (if i < 872 then (if i < 866 then (if i < 863 then (if i = 859 then 119 else 9999) else (if i = 863 then 120 else 9999)) else (if i < 869 then (if i = 866 then 122 else 9999) else (if i = 869 then 6 else 9999))) else (if i < 884 then (if i < 881 then (if i = 872 then 37 else 9999) else (if i = 881 then 82 else 9999)) else (if i < 887 then (if i = 884 then 125 else 9999) else (if i < 893 then (if i = 887 then 127 else 9999) else (if i = 893 then 129 else 9999)))))) else (if i < 958 then (if i < 934 then (if i < 928 then (if i < 922 then (if i = 896 then 134 else 9999) else (if i = 922 then 148 else 9999)) else (if i < 931 then (if i = 928 then 144 else 9999) else (if i = 931 then 146 else 9999))) else (if i < 949 then (if i < 946 then (if i = 934 then 142 else 9999) else (if i = 946 then 145 else 9999)) else (if i < 952 then (if i = 949 then 150 else 9999) else (if i < 955 then (if i = 952 then 152 else 9999) else (if i = 955 then 143 else 9999))))) else (if i < 971 then (if i < 965 then (if i < 962 then (if i = 958 then 153 else 9999) else (if i = 962 then 154 else 9999)) else (if i < 968 then (if i = 965 then 157 else 9999) else (if i = 968 then 149 else 9999))) else (if i < 977 then (if i < 974 then (if i = 971 then 155 else 9999) else (if i = 974 then 156 else 9999)) else (if i < 981 then (if i = 977 then 159 else 9999) else (if i < 984 then (if i = 981 then 147 else 9999) else (if i = 984 then 158 else 9999))))))))) else 9999
set_option maxRecDepth 100000 in
theorem fOf_ok0 : ∀ i, i < 1000 → fOf i ≠ 9999 → (i, fOf i) ∈ flk := by sorry
set_option maxRecDepth 100000 in
theorem mOf_ok0 : ∀ i, i < 1000 → mOf i ≠ 9999 → (i, mOf i) ∈ mlk := by sorry
theorem fOf_ok {i k : Nat} (h : fOf i = k) (hk : k < 150) : (i, k) ∈ flk := by sorry
theorem mOf_ok {i k : Nat} (h : mOf i = k) (hk : k < 9999) : (i, k) ∈ mlk := by sorry
def rok3 (nL : Nat) (ret : Option FieldType) (x : RI) (pc : Nat) : Bool :=
  match x.1 with
  | .getfield i => x.2.1 == 3 && Nat.beq (fOf i) x.2.2.2.1 && decide ((kd x.2.2.2.1 : Int) = x.2.2.1) && decide (x.2.2.2.1 < 150)
  | .putfield i => x.2.1 == 3 && Nat.beq (fOf i) x.2.2.2.1 && decide ((kd x.2.2.2.1 : Int) = x.2.2.1) && decide (x.2.2.2.1 < 150)
  | .invokevirtual i => x.2.1 == 3 && Nat.beq (mOf i) x.2.2.2.1 && decide (x.2.2.2.1 < 9999) && (match mtab[x.2.2.2.1]? with
    | some r => decide ((r.2.2.2.2 : Int) = x.2.2.1)
    | none => false)
  | _ => rok2 nL ret x pc
theorem rok3_ok {nL : Nat} {ret : Option FieldType} {x : RI} {pc : Nat} (h : rok3 nL ret x pc = true) : rok2 nL ret x pc = true := by sorry
def dP (cc : ByteArray) : List RI → Nat → Prop
  | [], _ => True
  | x :: is, pc => decode cc pc = .ok (x.1, x.2.1) ∧ dP cc is (pc + x.2.1)
def mB (nL : Nat) (ret : Option FieldType) : List RI → Nat → Bool
  | [], _ => true
  | x :: is, pc => rok3 nL ret x pc && mB nL ret is (pc + x.2.1)
theorem rokB_of {cc : ByteArray} {nL : Nat} {ret : Option FieldType} (is : List RI) : ∀ pc : Nat, dP cc is pc → mB nL ret is pc = true → rokB cc nL ret is pc = true := by sorry
abbrev RX : Type := List (Nat × Instr × Nat)
def wkI (sw : RX) : List RI → Nat → List Nat → Option (Nat × List Nat)
  | [], pc, bs => some (pc, bs)
  | x :: is, pc, bs => match (Nat.beq (mtI x.1 bs) x.2.1 && !Nat.beq x.2.1 0) || sw.any (fun q => Nat.beq q.1 pc && decide ((.ok q.2 : Except DecodeError (Instr × Nat)) = .ok (x.1, x.2.1))) with
    | true => wkI sw is (pc + x.2.1) (bs.drop x.2.1)
    | false => none
def wkM (sw : RX) : RB → Nat → List Nat → Bool
  | [], _, _ => true
  | b :: r, pc, bs => Nat.beq b.1 pc && (match wkI sw b.2 pc bs with
    | some q => wkM sw r q.1 q.2
    | none => false)
theorem wkI_ok {cc : ByteArray} {sw : RX} (hsw : ∀ q ∈ sw, decode cc q.1 = .ok (q.2.1, q.2.2)) (is : List RI) : ∀ (pc : Nat) (bs : List Nat) (q : Nat × List Nat), (∀ j, rdN cc (pc + j) = bs[j]?) → wkI sw is pc bs = some q → dP cc is pc ∧ ∀ j, rdN cc (q.1 + j) = q.2[j]? := by sorry
theorem wkM_ok {cc : ByteArray} {sw : RX} (hsw : ∀ q ∈ sw, decode cc q.1 = .ok (q.2.1, q.2.2)) (B : RB) : ∀ (pc : Nat) (bs : List Nat), (∀ j, rdN cc (pc + j) = bs[j]?) → wkM sw B pc bs = true → ∀ b ∈ B, dP cc b.2 b.1 := by sorry
theorem rokM_of {cc : ByteArray} {nL : Nat} {ret : Option FieldType} {B : RB} (sw : RX) (hsw : ∀ q ∈ sw, decode cc q.1 = .ok (q.2.1, q.2.2)) (h1 : wkM sw B 0 (codeL cc) = true) (h2 : B.all (fun b => mB nL ret b.2 b.1) = true) : rokM cc nL ret B = true := by sorry
def Bfeed_0 : List RI := [(.aload_n 0, 1, 0, 0, []), (.getfield 310, 3, 0, 1, []), (.bipush 20, 2, 0, 0, []), (.iadd, 1, 0, 0, []), (.sipush 2500, 3, 0, 0, []), (.if_icmp .le 6, 3, 0, 16, [])]
def Bfeed_13 : List RI := [(.bipush (-3), 2, 0, 0, []), (.ireturn, 1, 1, 0, [])]
def Bfeed_16 : List RI := [(.aload_n 0, 1, 0, 0, []), (.iload_n 1, 1, 0, 1, []), (.invokevirtual 313, 3, 1, 1, []), (.aload_n 0, 1, 0, 0, []), (.iload_n 2, 1, 0, 2, []), (.invokevirtual 313, 3, 1, 1, []), (.aload_n 0, 1, 0, 0, []), (.iload_n 3, 1, 0, 3, []), (.invokevirtual 313, 3, 1, 1, []), (.aload_n 0, 1, 0, 0, []), (.iload 4, 2, 0, 0, []), (.invokevirtual 313, 3, 1, 1, []), (.aload_n 0, 1, 0, 0, []), (.iload 5, 2, 0, 0, []), (.invokevirtual 313, 3, 1, 1, []), (.aload_n 0, 1, 0, 0, []), (.getfield 310, 3, 0, 1, []), (.ireturn, 1, 1, 0, [])]
def Bfeed : RB := [(0, Bfeed_0), (13, Bfeed_13), (16, Bfeed_16)]
set_option maxRecDepth 100000 in
theorem okBfeed : rokM cX12_feed 6 (some .int) Bfeed = true := by sorry
def Blay_0 : List RI := [(.bipush 24, 2, 0, 0, []), (.istore_n 2, 1, 0, 2, [])]
def Blay_3 : List RI := [(.iload_n 2, 1, 0, 2, []), (.ifCond .lt 35, 3, 0, 39, [])]
def Blay_7 : List RI := [(.aload_n 0, 1, 0, 0, []), (.getfield 7, 3, 3, 0, []), (.aload_n 0, 1, 0, 0, []), (.getfield 310, 3, 0, 1, []), (.iload_n 1, 1, 0, 1, []), (.iload_n 2, 1, 0, 2, []), (.ishr, 1, 0, 0, []), (.sipush 255, 3, 0, 0, []), (.iand, 1, 0, 0, []), (.iastore, 1, 0, 0, []), (.aload_n 0, 1, 0, 0, []), (.dup, 1, 0, 0, []), (.getfield 310, 3, 0, 1, []), (.iconst 1, 1, 0, 0, []), (.iadd, 1, 0, 0, []), (.putfield 310, 3, 0, 1, []), (.iinc 2 (-8), 3, 0, 0, []), (.goto (-33), 3, 0, 3, [])]
def Blay_39 : List RI := [(.return_, 1, 0, 0, [])]
def Blay : RB := [(0, Blay_0), (3, Blay_3), (7, Blay_7), (39, Blay_39)]
set_option maxRecDepth 100000 in
theorem okBlay : rokM cX12_lay 3 none Blay = true := by sorry
def Bcut_0 : List RI := [(.iload_n 1, 1, 0, 1, []), (.ifCond .lt 11, 3, 0, 12, [])]
def Bcut_4 : List RI := [(.iload_n 1, 1, 0, 1, []), (.aload_n 0, 1, 0, 0, []), (.getfield 310, 3, 0, 1, []), (.if_icmp .le 5, 3, 0, 14, [])]
def Bcut_12 : List RI := [(.iconst (-1), 1, 0, 0, []), (.ireturn, 1, 1, 0, [])]
def Bcut_14 : List RI := [(.aload_n 0, 1, 0, 0, []), (.dup, 1, 0, 0, []), (.getfield 310, 3, 0, 1, []), (.iload_n 1, 1, 0, 1, []), (.isub, 1, 0, 0, []), (.putfield 310, 3, 0, 1, []), (.aload_n 0, 1, 0, 0, []), (.getfield 310, 3, 0, 1, []), (.ireturn, 1, 1, 0, [])]
def Bcut : RB := [(0, Bcut_0), (4, Bcut_4), (12, Bcut_12), (14, Bcut_14)]
set_option maxRecDepth 100000 in
theorem okBcut : rokM cX12_cut 2 (some .int) Bcut = true := by sorry
def Bat_0 : List RI := [(.iload_n 1, 1, 0, 1, []), (.aload_n 0, 1, 0, 0, []), (.getfield 317, 3, 0, 12, []), (.if_icmp .ge 12, 3, 0, 17, [])]
def Bat_8 : List RI := [(.aload_n 0, 1, 0, 0, []), (.getfield 7, 3, 3, 0, []), (.iload_n 1, 1, 0, 1, []), (.iaload, 1, 0, 0, []), (.goto 4, 3, 0, 18, [])]
def Bat_17 : List RI := [(.iconst 0, 1, 0, 0, [])]
def Bat_18 : List RI := [(.ireturn, 1, 1, 0, [])]
def Bat : RB := [(0, Bat_0), (8, Bat_8), (17, Bat_17), (18, Bat_18)]
set_option maxRecDepth 100000 in
theorem okBat : rokM cX12_at 2 (some .int) Bat = true := by sorry
def BisLetter_0 : List RI := [(.iload_n 1, 1, 0, 1, []), (.bipush 97, 2, 0, 0, []), (.if_icmp .lt 9, 3, 0, 12, [])]
def BisLetter_6 : List RI := [(.iload_n 1, 1, 0, 1, []), (.bipush 122, 2, 0, 0, []), (.if_icmp .le 15, 3, 0, 24, [])]
def BisLetter_12 : List RI := [(.iload_n 1, 1, 0, 1, []), (.bipush 65, 2, 0, 0, []), (.if_icmp .lt 13, 3, 0, 28, [])]
def BisLetter_18 : List RI := [(.iload_n 1, 1, 0, 1, []), (.bipush 90, 2, 0, 0, []), (.if_icmp .gt 7, 3, 0, 28, [])]
def BisLetter_24 : List RI := [(.iconst 1, 1, 0, 0, []), (.goto 4, 3, 0, 29, [])]
def BisLetter_28 : List RI := [(.iconst 0, 1, 0, 0, [])]
def BisLetter_29 : List RI := [(.ireturn, 1, 2, 0, [])]
def BisLetter : RB := [(0, BisLetter_0), (6, BisLetter_6), (12, BisLetter_12), (18, BisLetter_18), (24, BisLetter_24), (28, BisLetter_28), (29, BisLetter_29)]
set_option maxRecDepth 100000 in
theorem okBisLetter : rokM cX12_isLetter 2 (some .boolean) BisLetter = true := by sorry
def BisDigit_0 : List RI := [(.iload_n 1, 1, 0, 1, []), (.bipush 48, 2, 0, 0, []), (.if_icmp .lt 13, 3, 0, 16, [])]
def BisDigit_6 : List RI := [(.iload_n 1, 1, 0, 1, []), (.bipush 57, 2, 0, 0, []), (.if_icmp .gt 7, 3, 0, 16, [])]
def BisDigit_12 : List RI := [(.iconst 1, 1, 0, 0, []), (.goto 4, 3, 0, 17, [])]
def BisDigit_16 : List RI := [(.iconst 0, 1, 0, 0, [])]
def BisDigit_17 : List RI := [(.ireturn, 1, 2, 0, [])]
def BisDigit : RB := [(0, BisDigit_0), (6, BisDigit_6), (12, BisDigit_12), (16, BisDigit_16), (17, BisDigit_17)]
set_option maxRecDepth 100000 in
theorem okBisDigit : rokM cX12_isDigit 2 (some .boolean) BisDigit = true := by sorry
def Blexer_0 : List RI := [(.aload_n 0, 1, 0, 0, []), (.aload_n 0, 1, 0, 0, []), (.getfield 310, 3, 0, 1, []), (.putfield 317, 3, 0, 12, []), (.aload_n 0, 1, 0, 0, []), (.iconst 0, 1, 0, 0, []), (.putfield 320, 3, 0, 13, []), (.aload_n 0, 1, 0, 0, []), (.iconst 0, 1, 0, 0, []), (.putfield 323, 3, 0, 2, []), (.iconst 1, 1, 0, 0, []), (.istore_n 1, 1, 0, 1, [])]
def Blexer_20 : List RI := [(.iload_n 1, 1, 0, 1, []), (.ifCond .eq 340, 3, 0, 361, [])]
def Blexer_24 : List RI := [(.iconst 0, 1, 0, 0, []), (.istore_n 2, 1, 0, 2, [])]
def Blexer_26 : List RI := [(.aload_n 0, 1, 0, 0, []), (.getfield 320, 3, 0, 13, []), (.aload_n 0, 1, 0, 0, []), (.getfield 317, 3, 0, 12, []), (.if_icmp .ge 143, 3, 0, 177, [])]
def Blexer_37 : List RI := [(.iload_n 2, 1, 0, 2, []), (.ifCond .ne 88, 3, 0, 126, [])]
def Blexer_41 : List RI := [(.aload_n 0, 1, 0, 0, []), (.getfield 7, 3, 3, 0, []), (.aload_n 0, 1, 0, 0, []), (.getfield 320, 3, 0, 13, []), (.iaload, 1, 0, 0, []), (.bipush 9, 2, 0, 0, []), (.if_icmp .eq 74, 3, 0, 126, [])]
def Blexer_55 : List RI := [(.aload_n 0, 1, 0, 0, []), (.getfield 7, 3, 3, 0, []), (.aload_n 0, 1, 0, 0, []), (.getfield 320, 3, 0, 13, []), (.iaload, 1, 0, 0, []), (.bipush 10, 2, 0, 0, []), (.if_icmp .eq 60, 3, 0, 126, [])]
def Blexer_69 : List RI := [(.aload_n 0, 1, 0, 0, []), (.getfield 7, 3, 3, 0, []), (.aload_n 0, 1, 0, 0, []), (.getfield 320, 3, 0, 13, []), (.iaload, 1, 0, 0, []), (.bipush 13, 2, 0, 0, []), (.if_icmp .eq 46, 3, 0, 126, [])]
def Blexer_83 : List RI := [(.aload_n 0, 1, 0, 0, []), (.getfield 7, 3, 3, 0, []), (.aload_n 0, 1, 0, 0, []), (.getfield 320, 3, 0, 13, []), (.iaload, 1, 0, 0, []), (.bipush 32, 2, 0, 0, []), (.if_icmp .eq 32, 3, 0, 126, [])]
def Blexer_97 : List RI := [(.aload_n 0, 1, 0, 0, []), (.getfield 7, 3, 3, 0, []), (.aload_n 0, 1, 0, 0, []), (.getfield 320, 3, 0, 13, []), (.iaload, 1, 0, 0, []), (.bipush 47, 2, 0, 0, []), (.if_icmp .ne 69, 3, 0, 177, [])]
def Blexer_111 : List RI := [(.aload_n 0, 1, 0, 0, []), (.aload_n 0, 1, 0, 0, []), (.getfield 320, 3, 0, 13, []), (.iconst 1, 1, 0, 0, []), (.iadd, 1, 0, 0, []), (.invokevirtual 326, 3, 1, 3, []), (.bipush 47, 2, 0, 0, []), (.if_icmp .ne 54, 3, 0, 177, [])]
def Blexer_126 : List RI := [(.aload_n 0, 1, 0, 0, []), (.getfield 7, 3, 3, 0, []), (.aload_n 0, 1, 0, 0, []), (.getfield 320, 3, 0, 13, []), (.iaload, 1, 0, 0, []), (.bipush 10, 2, 0, 0, []), (.if_icmp .eq 25, 3, 0, 162, [])]
def Blexer_140 : List RI := [(.iload_n 2, 1, 0, 2, []), (.ifCond .ne 17, 3, 0, 158, [])]
def Blexer_144 : List RI := [(.aload_n 0, 1, 0, 0, []), (.getfield 7, 3, 3, 0, []), (.aload_n 0, 1, 0, 0, []), (.getfield 320, 3, 0, 13, []), (.iaload, 1, 0, 0, []), (.bipush 47, 2, 0, 0, []), (.if_icmp .ne 7, 3, 0, 162, [])]
def Blexer_158 : List RI := [(.iconst 1, 1, 0, 0, []), (.goto 4, 3, 0, 163, [])]
def Blexer_162 : List RI := [(.iconst 0, 1, 0, 0, [])]
def Blexer_163 : List RI := [(.istore_n 2, 1, 0, 2, []), (.aload_n 0, 1, 0, 0, []), (.dup, 1, 0, 0, []), (.getfield 320, 3, 0, 13, []), (.iconst 1, 1, 0, 0, []), (.iadd, 1, 0, 0, []), (.putfield 320, 3, 0, 13, []), (.goto (-148), 3, 0, 26, [])]
def Blexer_177 : List RI := [(.aload_n 0, 1, 0, 0, []), (.getfield 323, 3, 0, 2, []), (.istore_n 3, 1, 0, 3, []), (.aload_n 0, 1, 0, 0, []), (.getfield 16, 3, 3, 4, []), (.iload_n 3, 1, 0, 3, []), (.aload_n 0, 1, 0, 0, []), (.getfield 320, 3, 0, 13, []), (.iastore, 1, 0, 0, []), (.aload_n 0, 1, 0, 0, []), (.getfield 22, 3, 3, 6, []), (.iload_n 3, 1, 0, 3, []), (.iconst 0, 1, 0, 0, []), (.iastore, 1, 0, 0, []), (.aload_n 0, 1, 0, 0, []), (.getfield 320, 3, 0, 13, []), (.aload_n 0, 1, 0, 0, []), (.getfield 317, 3, 0, 12, []), (.if_icmp .ne 13, 3, 0, 220, [])]
def Blexer_210 : List RI := [(.aload_n 0, 1, 0, 0, []), (.getfield 13, 3, 3, 3, []), (.iload_n 3, 1, 0, 3, []), (.iconst 0, 1, 0, 0, []), (.iastore, 1, 0, 0, []), (.goto 78, 3, 0, 295, [])]
def Blexer_220 : List RI := [(.aload_n 0, 1, 0, 0, []), (.aload_n 0, 1, 0, 0, []), (.getfield 7, 3, 3, 0, []), (.aload_n 0, 1, 0, 0, []), (.getfield 320, 3, 0, 13, []), (.iaload, 1, 0, 0, []), (.invokevirtual 330, 3, 1, 4, []), (.ifCond .eq 11, 3, 0, 244, [])]
def Blexer_236 : List RI := [(.aload_n 0, 1, 0, 0, []), (.iload_n 3, 1, 0, 3, []), (.invokevirtual 334, 3, 1, 7, []), (.goto 54, 3, 0, 295, [])]
def Blexer_244 : List RI := [(.aload_n 0, 1, 0, 0, []), (.aload_n 0, 1, 0, 0, []), (.getfield 7, 3, 3, 0, []), (.aload_n 0, 1, 0, 0, []), (.getfield 320, 3, 0, 13, []), (.iaload, 1, 0, 0, []), (.invokevirtual 337, 3, 1, 5, []), (.ifCond .eq 11, 3, 0, 268, [])]
def Blexer_260 : List RI := [(.aload_n 0, 1, 0, 0, []), (.iload_n 3, 1, 0, 3, []), (.invokevirtual 340, 3, 1, 9, []), (.goto 30, 3, 0, 295, [])]
def Blexer_268 : List RI := [(.aload_n 0, 1, 0, 0, []), (.getfield 7, 3, 3, 0, []), (.aload_n 0, 1, 0, 0, []), (.getfield 320, 3, 0, 13, []), (.iaload, 1, 0, 0, []), (.bipush 39, 2, 0, 0, []), (.if_icmp .ne 11, 3, 0, 290, [])]
def Blexer_282 : List RI := [(.aload_n 0, 1, 0, 0, []), (.iload_n 3, 1, 0, 3, []), (.invokevirtual 343, 3, 1, 10, []), (.goto 8, 3, 0, 295, [])]
def Blexer_290 : List RI := [(.aload_n 0, 1, 0, 0, []), (.iload_n 3, 1, 0, 3, []), (.invokevirtual 346, 3, 1, 11, [])]
def Blexer_295 : List RI := [(.aload_n 0, 1, 0, 0, []), (.getfield 19, 3, 3, 5, []), (.iload_n 3, 1, 0, 3, []), (.aload_n 0, 1, 0, 0, []), (.getfield 320, 3, 0, 13, []), (.aload_n 0, 1, 0, 0, []), (.getfield 16, 3, 3, 4, []), (.iload_n 3, 1, 0, 3, []), (.iaload, 1, 0, 0, []), (.isub, 1, 0, 0, []), (.iastore, 1, 0, 0, []), (.aload_n 0, 1, 0, 0, []), (.dup, 1, 0, 0, []), (.getfield 323, 3, 0, 2, []), (.iconst 1, 1, 0, 0, []), (.iadd, 1, 0, 0, []), (.putfield 323, 3, 0, 2, []), (.aload_n 0, 1, 0, 0, []), (.getfield 13, 3, 3, 3, []), (.iload_n 3, 1, 0, 3, []), (.iaload, 1, 0, 0, []), (.ifCond .eq 28, 3, 0, 356, [])]
def Blexer_331 : List RI := [(.aload_n 0, 1, 0, 0, []), (.getfield 13, 3, 3, 3, []), (.iload_n 3, 1, 0, 3, []), (.iaload, 1, 0, 0, []), (.bipush 6, 2, 0, 0, []), (.if_icmp .eq 17, 3, 0, 356, [])]
def Blexer_342 : List RI := [(.aload_n 0, 1, 0, 0, []), (.getfield 323, 3, 0, 2, []), (.sipush 2590, 3, 0, 0, []), (.if_icmp .ge 7, 3, 0, 356, [])]
def Blexer_352 : List RI := [(.iconst 1, 1, 0, 0, []), (.goto 4, 3, 0, 357, [])]
def Blexer_356 : List RI := [(.iconst 0, 1, 0, 0, [])]
def Blexer_357 : List RI := [(.istore_n 1, 1, 0, 1, []), (.goto (-338), 3, 0, 20, [])]
def Blexer_361 : List RI := [(.return_, 1, 0, 0, [])]
def Blexer : RB := [(0, Blexer_0), (20, Blexer_20), (24, Blexer_24), (26, Blexer_26), (37, Blexer_37), (41, Blexer_41), (55, Blexer_55), (69, Blexer_69), (83, Blexer_83), (97, Blexer_97), (111, Blexer_111), (126, Blexer_126), (140, Blexer_140), (144, Blexer_144), (158, Blexer_158), (162, Blexer_162), (163, Blexer_163), (177, Blexer_177), (210, Blexer_210), (220, Blexer_220), (236, Blexer_236), (244, Blexer_244), (260, Blexer_260), (268, Blexer_268), (282, Blexer_282), (290, Blexer_290), (295, Blexer_295), (331, Blexer_331), (342, Blexer_342), (352, Blexer_352), (356, Blexer_356), (357, Blexer_357), (361, Blexer_361)]
set_option maxRecDepth 100000 in
theorem okBlexer : rokM cX12_lexer 4 none Blexer = true := by sorry
def Bword_0 : List RI := [(.iconst 0, 1, 0, 0, []), (.istore_n 2, 1, 0, 2, []), (.lconst 0, 1, 0, 0, []), (.lstore_n 3, 1, 0, 3, []), (.iconst 0, 1, 0, 0, []), (.istore 5, 2, 0, 0, [])]
def Bword_7 : List RI := [(.aload_n 0, 1, 0, 0, []), (.aload_n 0, 1, 0, 0, []), (.aload_n 0, 1, 0, 0, []), (.getfield 320, 3, 0, 13, []), (.invokevirtual 326, 3, 1, 3, []), (.invokevirtual 330, 3, 1, 4, []), (.ifCond .ne 18, 3, 0, 37, [])]
def Bword_22 : List RI := [(.aload_n 0, 1, 0, 0, []), (.aload_n 0, 1, 0, 0, []), (.aload_n 0, 1, 0, 0, []), (.getfield 320, 3, 0, 13, []), (.invokevirtual 326, 3, 1, 3, []), (.invokevirtual 337, 3, 1, 5, []), (.ifCond .eq 65, 3, 0, 99, [])]
def Bword_37 : List RI := [(.iload_n 2, 1, 0, 2, []), (.bipush 8, 2, 0, 0, []), (.if_icmp .ge 21, 3, 0, 61, [])]
def Bword_43 : List RI := [(.lload_n 3, 1, 0, 3, []), (.bipush 8, 2, 0, 0, []), (.lshl, 1, 0, 0, []), (.aload_n 0, 1, 0, 0, []), (.aload_n 0, 1, 0, 0, []), (.getfield 320, 3, 0, 13, []), (.invokevirtual 326, 3, 1, 3, []), (.i2l, 1, 0, 0, []), (.lor, 1, 0, 0, []), (.lstore_n 3, 1, 0, 3, []), (.goto 25, 3, 0, 83, [])]
def Bword_61 : List RI := [(.iload_n 2, 1, 0, 2, []), (.bipush 10, 2, 0, 0, []), (.if_icmp .ge 19, 3, 0, 83, [])]
def Bword_67 : List RI := [(.iload 5, 2, 0, 0, []), (.bipush 8, 2, 0, 0, []), (.ishl, 1, 0, 0, []), (.aload_n 0, 1, 0, 0, []), (.aload_n 0, 1, 0, 0, []), (.getfield 320, 3, 0, 13, []), (.invokevirtual 326, 3, 1, 3, []), (.ior, 1, 0, 0, []), (.istore 5, 2, 0, 0, [])]
def Bword_83 : List RI := [(.aload_n 0, 1, 0, 0, []), (.dup, 1, 0, 0, []), (.getfield 320, 3, 0, 13, []), (.iconst 1, 1, 0, 0, []), (.iadd, 1, 0, 0, []), (.putfield 320, 3, 0, 13, []), (.iinc 2 1, 3, 0, 0, []), (.goto (-89), 3, 0, 7, [])]
def Bword_99 : List RI := [(.aload_n 0, 1, 0, 0, []), (.getfield 25, 3, 5, 7, []), (.iload_n 1, 1, 0, 1, []), (.lload_n 3, 1, 0, 3, []), (.lastore, 1, 0, 0, []), (.aload_n 0, 1, 0, 0, []), (.getfield 29, 3, 3, 8, []), (.iload_n 1, 1, 0, 1, []), (.iload 5, 2, 0, 0, []), (.iastore, 1, 0, 0, []), (.aload_n 0, 1, 0, 0, []), (.getfield 13, 3, 3, 3, []), (.iload_n 1, 1, 0, 1, []), (.iload_n 2, 1, 0, 2, []), (.bipush 10, 2, 0, 0, []), (.if_icmp .le 8, 3, 0, 130, [])]
def Bword_125 : List RI := [(.bipush 6, 2, 0, 0, []), (.goto 4, 3, 0, 131, [])]
def Bword_130 : List RI := [(.iconst 1, 1, 0, 0, [])]
def Bword_131 : List RI := [(.iastore, 1, 0, 0, []), (.iload_n 2, 1, 0, 2, []), (.bipush 8, 2, 0, 0, []), (.if_icmp .le 8, 3, 0, 143, [])]
def Bword_138 : List RI := [(.bipush (-2), 2, 0, 0, []), (.goto 8, 3, 0, 148, [])]
def Bword_143 : List RI := [(.aload_n 0, 1, 0, 0, []), (.lload_n 3, 1, 0, 3, []), (.invokevirtual 349, 3, 1, 8, [])]
def Bword_148 : List RI := [(.istore 6, 2, 0, 0, []), (.iload 6, 2, 0, 0, []), (.ifCond .ge 4, 3, 0, 156, [])]
def Bword_155 : List RI := [(.return_, 1, 0, 0, [])]
def Bword_156 : List RI := [(.aload_n 0, 1, 0, 0, []), (.getfield 13, 3, 3, 3, []), (.iload_n 1, 1, 0, 1, []), (.iconst 4, 1, 0, 0, []), (.iastore, 1, 0, 0, []), (.aload_n 0, 1, 0, 0, []), (.getfield 22, 3, 3, 6, []), (.iload_n 1, 1, 0, 1, []), (.iload 6, 2, 0, 0, []), (.iastore, 1, 0, 0, []), (.return_, 1, 0, 0, [])]
def Bword : RB := [(0, Bword_0), (7, Bword_7), (22, Bword_22), (37, Bword_37), (43, Bword_43), (61, Bword_61), (67, Bword_67), (83, Bword_83), (99, Bword_99), (125, Bword_125), (130, Bword_130), (131, Bword_131), (138, Bword_138), (143, Bword_143), (148, Bword_148), (155, Bword_155), (156, Bword_156)]
set_option maxRecDepth 100000 in
theorem okBword : rokM cX12_word 7 none Bword = true := by sorry
def BwordOf_0 : List RI := [(.lload_n 1, 1, 0, 1, []), (.ldc2_w 353, 3, 27707072068280686, 0, []), (.lcmp, 1, 0, 0, []), (.ifCond .ne 5, 3, 0, 10, [])]
def BwordOf_8 : List RI := [(.iconst 0, 1, 0, 0, []), (.ireturn, 1, 1, 0, [])]
def BwordOf_10 : List RI := [(.lload_n 1, 1, 0, 1, []), (.ldc2_w 355, 3, 1652126821, 0, []), (.lcmp, 1, 0, 0, []), (.ifCond .ne 5, 3, 0, 20, [])]
def BwordOf_18 : List RI := [(.iconst 1, 1, 0, 0, []), (.ireturn, 1, 1, 0, [])]
def BwordOf_20 : List RI := [(.lload_n 1, 1, 0, 1, []), (.ldc2_w 357, 3, 1667785074, 0, []), (.lcmp, 1, 0, 0, []), (.ifCond .ne 5, 3, 0, 30, [])]
def BwordOf_28 : List RI := [(.iconst 2, 1, 0, 0, []), (.ireturn, 1, 1, 0, [])]
def BwordOf_30 : List RI := [(.lload_n 1, 1, 0, 1, []), (.ldc2_w 359, 3, 6909556, 0, []), (.lcmp, 1, 0, 0, []), (.ifCond .ne 5, 3, 0, 40, [])]
def BwordOf_38 : List RI := [(.iconst 3, 1, 0, 0, []), (.ireturn, 1, 1, 0, [])]
def BwordOf_40 : List RI := [(.lload_n 1, 1, 0, 1, []), (.ldc2_w 361, 3, 1819242087, 0, []), (.lcmp, 1, 0, 0, []), (.ifCond .ne 5, 3, 0, 50, [])]
def BwordOf_48 : List RI := [(.iconst 4, 1, 0, 0, []), (.ireturn, 1, 1, 0, [])]
def BwordOf_50 : List RI := [(.lload_n 1, 1, 0, 1, []), (.ldc2_w 363, 3, 1987012964, 0, []), (.lcmp, 1, 0, 0, []), (.ifCond .ne 5, 3, 0, 60, [])]
def BwordOf_58 : List RI := [(.iconst 5, 1, 0, 0, []), (.ireturn, 1, 1, 0, [])]
def BwordOf_60 : List RI := [(.lload_n 1, 1, 0, 1, []), (.ldc2_w 365, 3, 26982, 0, []), (.lcmp, 1, 0, 0, []), (.ifCond .ne 6, 3, 0, 71, [])]
def BwordOf_68 : List RI := [(.bipush 6, 2, 0, 0, []), (.ireturn, 1, 1, 0, [])]
def BwordOf_71 : List RI := [(.lload_n 1, 1, 0, 1, []), (.ldc2_w 367, 3, 1701606245, 0, []), (.lcmp, 1, 0, 0, []), (.ifCond .ne 6, 3, 0, 82, [])]
def BwordOf_79 : List RI := [(.bipush 7, 2, 0, 0, []), (.ireturn, 1, 1, 0, [])]
def BwordOf_82 : List RI := [(.lload_n 1, 1, 0, 1, []), (.ldc2_w 369, 3, 512852847717, 0, []), (.lcmp, 1, 0, 0, []), (.ifCond .ne 6, 3, 0, 93, [])]
def BwordOf_90 : List RI := [(.bipush 8, 2, 0, 0, []), (.ireturn, 1, 1, 0, [])]
def BwordOf_93 : List RI := [(.lload_n 1, 1, 0, 1, []), (.ldc2_w 371, 3, 6713202, 0, []), (.lcmp, 1, 0, 0, []), (.ifCond .ne 6, 3, 0, 104, [])]
def BwordOf_101 : List RI := [(.bipush 9, 2, 0, 0, []), (.ireturn, 1, 1, 0, [])]
def BwordOf_104 : List RI := [(.lload_n 1, 1, 0, 1, []), (.ldc2_w 373, 3, 25711, 0, []), (.lcmp, 1, 0, 0, []), (.ifCond .ne 6, 3, 0, 115, [])]
def BwordOf_112 : List RI := [(.bipush 10, 2, 0, 0, []), (.ireturn, 1, 1, 0, [])]
def BwordOf_115 : List RI := [(.lload_n 1, 1, 0, 1, []), (.ldc2_w 375, 3, 126956707537768, 0, []), (.lcmp, 1, 0, 0, []), (.ifCond .ne 6, 3, 0, 126, [])]
def BwordOf_123 : List RI := [(.bipush 11, 2, 0, 0, []), (.ireturn, 1, 1, 0, [])]
def BwordOf_126 : List RI := [(.lload_n 1, 1, 0, 1, []), (.ldc2_w 377, 3, 1667330917, 0, []), (.lcmp, 1, 0, 0, []), (.ifCond .ne 6, 3, 0, 137, [])]
def BwordOf_134 : List RI := [(.bipush 12, 2, 0, 0, []), (.ireturn, 1, 1, 0, [])]
def BwordOf_137 : List RI := [(.lload_n 1, 1, 0, 1, []), (.ldc2_w 379, 3, 28258988067220596, 0, []), (.lcmp, 1, 0, 0, []), (.ifCond .ne 6, 3, 0, 148, [])]
def BwordOf_145 : List RI := [(.bipush 13, 2, 0, 0, []), (.ireturn, 1, 1, 0, [])]
def BwordOf_148 : List RI := [(.lload_n 1, 1, 0, 1, []), (.ldc2_w 381, 3, 422826041707, 0, []), (.lcmp, 1, 0, 0, []), (.ifCond .ne 6, 3, 0, 159, [])]
def BwordOf_156 : List RI := [(.bipush 14, 2, 0, 0, []), (.ireturn, 1, 1, 0, [])]
def BwordOf_159 : List RI := [(.lload_n 1, 1, 0, 1, []), (.ldc2_w 383, 3, 7165066978433856869, 0, []), (.lcmp, 1, 0, 0, []), (.ifCond .ne 6, 3, 0, 170, [])]
def BwordOf_167 : List RI := [(.bipush 15, 2, 0, 0, []), (.ireturn, 1, 1, 0, [])]
def BwordOf_170 : List RI := [(.lload_n 1, 1, 0, 1, []), (.ldc2_w 385, 3, 125780071117422, 0, []), (.lcmp, 1, 0, 0, []), (.ifCond .ne 6, 3, 0, 181, [])]
def BwordOf_178 : List RI := [(.bipush 16, 2, 0, 0, []), (.ireturn, 1, 1, 0, [])]
def BwordOf_181 : List RI := [(.lload_n 1, 1, 0, 1, []), (.ldc2_w 387, 3, 499968536439, 0, []), (.lcmp, 1, 0, 0, []), (.ifCond .ne 6, 3, 0, 192, [])]
def BwordOf_189 : List RI := [(.bipush 17, 2, 0, 0, []), (.ireturn, 1, 1, 0, [])]
def BwordOf_192 : List RI := [(.lload_n 1, 1, 0, 1, []), (.ldc2_w 389, 3, 7631481, 0, []), (.lcmp, 1, 0, 0, []), (.ifCond .ne 6, 3, 0, 203, [])]
def BwordOf_200 : List RI := [(.bipush 18, 2, 0, 0, []), (.ireturn, 1, 1, 0, [])]
def BwordOf_203 : List RI := [(.lload_n 1, 1, 0, 1, []), (.ldc2_w 391, 3, 426836779880, 0, []), (.lcmp, 1, 0, 0, []), (.ifCond .ne 6, 3, 0, 214, [])]
def BwordOf_211 : List RI := [(.bipush 19, 2, 0, 0, []), (.ireturn, 1, 1, 0, [])]
def BwordOf_214 : List RI := [(.lload_n 1, 1, 0, 1, []), (.ldc2_w 393, 3, 28826370426301561, 0, []), (.lcmp, 1, 0, 0, []), (.ifCond .ne 6, 3, 0, 225, [])]
def BwordOf_222 : List RI := [(.bipush 20, 2, 0, 0, []), (.ireturn, 1, 1, 0, [])]
def BwordOf_225 : List RI := [(.lload_n 1, 1, 0, 1, []), (.ldc2_w 395, 3, 439855505772, 0, []), (.lcmp, 1, 0, 0, []), (.ifCond .ne 6, 3, 0, 236, [])]
def BwordOf_233 : List RI := [(.bipush 21, 2, 0, 0, []), (.ireturn, 1, 1, 0, [])]
def BwordOf_236 : List RI := [(.lload_n 1, 1, 0, 1, []), (.ldc2_w 397, 3, 1953658213, 0, []), (.lcmp, 1, 0, 0, []), (.ifCond .ne 6, 3, 0, 247, [])]
def BwordOf_244 : List RI := [(.bipush 22, 2, 0, 0, []), (.ireturn, 1, 1, 0, [])]
def BwordOf_247 : List RI := [(.lload_n 1, 1, 0, 1, []), (.ldc2_w 399, 3, 439721161573, 0, []), (.lcmp, 1, 0, 0, []), (.ifCond .ne 8, 3, 0, 260, [])]
def BwordOf_255 : List RI := [(.bipush 23, 2, 0, 0, []), (.goto 5, 3, 0, 262, [])]
def BwordOf_260 : List RI := [(.bipush (-2), 2, 0, 0, [])]
def BwordOf_262 : List RI := [(.ireturn, 1, 1, 0, [])]
def BwordOf : RB := [(0, BwordOf_0), (8, BwordOf_8), (10, BwordOf_10), (18, BwordOf_18), (20, BwordOf_20), (28, BwordOf_28), (30, BwordOf_30), (38, BwordOf_38), (40, BwordOf_40), (48, BwordOf_48), (50, BwordOf_50), (58, BwordOf_58), (60, BwordOf_60), (68, BwordOf_68), (71, BwordOf_71), (79, BwordOf_79), (82, BwordOf_82), (90, BwordOf_90), (93, BwordOf_93), (101, BwordOf_101), (104, BwordOf_104), (112, BwordOf_112), (115, BwordOf_115), (123, BwordOf_123), (126, BwordOf_126), (134, BwordOf_134), (137, BwordOf_137), (145, BwordOf_145), (148, BwordOf_148), (156, BwordOf_156), (159, BwordOf_159), (167, BwordOf_167), (170, BwordOf_170), (178, BwordOf_178), (181, BwordOf_181), (189, BwordOf_189), (192, BwordOf_192), (200, BwordOf_200), (203, BwordOf_203), (211, BwordOf_211), (214, BwordOf_214), (222, BwordOf_222), (225, BwordOf_225), (233, BwordOf_233), (236, BwordOf_236), (244, BwordOf_244), (247, BwordOf_247), (255, BwordOf_255), (260, BwordOf_260), (262, BwordOf_262)]
set_option maxRecDepth 100000 in
theorem okBwordOf : rokM cX12_wordOf 3 (some .int) BwordOf = true := by sorry
def Bnumber_0 : List RI := [(.iconst 0, 1, 0, 0, []), (.istore_n 2, 1, 0, 2, []), (.lconst 0, 1, 0, 0, []), (.lstore_n 3, 1, 0, 3, []), (.iconst 0, 1, 0, 0, []), (.istore 5, 2, 0, 0, [])]
def Bnumber_7 : List RI := [(.aload_n 0, 1, 0, 0, []), (.aload_n 0, 1, 0, 0, []), (.aload_n 0, 1, 0, 0, []), (.getfield 320, 3, 0, 13, []), (.invokevirtual 326, 3, 1, 3, []), (.invokevirtual 337, 3, 1, 5, []), (.ifCond .eq 68, 3, 0, 87, [])]
def Bnumber_22 : List RI := [(.aload_n 0, 1, 0, 0, []), (.aload_n 0, 1, 0, 0, []), (.getfield 320, 3, 0, 13, []), (.invokevirtual 326, 3, 1, 3, []), (.bipush 48, 2, 0, 0, []), (.isub, 1, 0, 0, []), (.istore 6, 2, 0, 0, []), (.lload_n 3, 1, 0, 3, []), (.ldc2_w 401, 3, 922337203685477580, 0, []), (.lcmp, 1, 0, 0, []), (.ifCond .gt 18, 3, 0, 58, [])]
def Bnumber_43 : List RI := [(.lload_n 3, 1, 0, 3, []), (.ldc2_w 401, 3, 922337203685477580, 0, []), (.lcmp, 1, 0, 0, []), (.ifCond .ne 13, 3, 0, 61, [])]
def Bnumber_51 : List RI := [(.iload 6, 2, 0, 0, []), (.bipush 8, 2, 0, 0, []), (.if_icmp .le 6, 3, 0, 61, [])]
def Bnumber_58 : List RI := [(.iconst 1, 1, 0, 0, []), (.istore 5, 2, 0, 0, [])]
def Bnumber_61 : List RI := [(.ldc2_w 403, 3, 10, 0, []), (.lload_n 3, 1, 0, 3, []), (.lmul, 1, 0, 0, []), (.iload 6, 2, 0, 0, []), (.i2l, 1, 0, 0, []), (.ladd, 1, 0, 0, []), (.lstore_n 3, 1, 0, 3, []), (.aload_n 0, 1, 0, 0, []), (.dup, 1, 0, 0, []), (.getfield 320, 3, 0, 13, []), (.iconst 1, 1, 0, 0, []), (.iadd, 1, 0, 0, []), (.putfield 320, 3, 0, 13, []), (.iinc 2 1, 3, 0, 0, []), (.goto (-77), 3, 0, 7, [])]
def Bnumber_87 : List RI := [(.aload_n 0, 1, 0, 0, []), (.getfield 35, 3, 4, 10, []), (.iload_n 1, 1, 0, 1, []), (.aload_n 0, 1, 0, 0, []), (.aload_n 0, 1, 0, 0, []), (.getfield 320, 3, 0, 13, []), (.invokevirtual 326, 3, 1, 3, []), (.bipush 76, 2, 0, 0, []), (.if_icmp .ne 7, 3, 0, 109, [])]
def Bnumber_105 : List RI := [(.iconst 1, 1, 0, 0, []), (.goto 4, 3, 0, 110, [])]
def Bnumber_109 : List RI := [(.iconst 0, 1, 0, 0, [])]
def Bnumber_110 : List RI := [(.bastore, 1, 0, 0, []), (.aload_n 0, 1, 0, 0, []), (.getfield 35, 3, 4, 10, []), (.iload_n 1, 1, 0, 1, []), (.baload, 1, 0, 0, []), (.ifCond .eq 13, 3, 0, 130, [])]
def Bnumber_120 : List RI := [(.aload_n 0, 1, 0, 0, []), (.dup, 1, 0, 0, []), (.getfield 320, 3, 0, 13, []), (.iconst 1, 1, 0, 0, []), (.iadd, 1, 0, 0, []), (.putfield 320, 3, 0, 13, [])]
def Bnumber_130 : List RI := [(.aload_n 0, 1, 0, 0, []), (.getfield 13, 3, 3, 3, []), (.iload_n 1, 1, 0, 1, []), (.iload_n 2, 1, 0, 2, []), (.bipush 19, 2, 0, 0, []), (.if_icmp .le 8, 3, 0, 146, [])]
def Bnumber_141 : List RI := [(.bipush 6, 2, 0, 0, []), (.goto 4, 3, 0, 147, [])]
def Bnumber_146 : List RI := [(.iconst 2, 1, 0, 0, [])]
def Bnumber_147 : List RI := [(.iastore, 1, 0, 0, []), (.aload_n 0, 1, 0, 0, []), (.getfield 32, 3, 5, 9, []), (.iload_n 1, 1, 0, 1, []), (.lload_n 3, 1, 0, 3, []), (.lastore, 1, 0, 0, []), (.aload_n 0, 1, 0, 0, []), (.getfield 35, 3, 4, 10, []), (.iload_n 1, 1, 0, 1, []), (.baload, 1, 0, 0, []), (.ifCond .eq 32, 3, 0, 193, [])]
def Bnumber_164 : List RI := [(.aload_n 0, 1, 0, 0, []), (.getfield 39, 3, 3, 11, []), (.iload_n 1, 1, 0, 1, []), (.iload 5, 2, 0, 0, []), (.ifCond .eq 7, 3, 0, 178, [])]
def Bnumber_174 : List RI := [(.iconst 2, 1, 0, 0, []), (.goto 14, 3, 0, 189, [])]
def Bnumber_178 : List RI := [(.lload_n 3, 1, 0, 3, []), (.lconst 0, 1, 0, 0, []), (.lcmp, 1, 0, 0, []), (.ifCond .ge 7, 3, 0, 188, [])]
def Bnumber_184 : List RI := [(.iconst 1, 1, 0, 0, []), (.goto 4, 3, 0, 189, [])]
def Bnumber_188 : List RI := [(.iconst 0, 1, 0, 0, [])]
def Bnumber_189 : List RI := [(.iastore, 1, 0, 0, []), (.goto 45, 3, 0, 235, [])]
def Bnumber_193 : List RI := [(.aload_n 0, 1, 0, 0, []), (.getfield 39, 3, 3, 11, []), (.iload_n 1, 1, 0, 1, []), (.iload 5, 2, 0, 0, []), (.ifCond .ne 17, 3, 0, 217, [])]
def Bnumber_203 : List RI := [(.lload_n 3, 1, 0, 3, []), (.lconst 0, 1, 0, 0, []), (.lcmp, 1, 0, 0, []), (.ifCond .lt 11, 3, 0, 217, [])]
def Bnumber_209 : List RI := [(.lload_n 3, 1, 0, 3, []), (.ldc2_w 405, 3, 2147483648, 0, []), (.lcmp, 1, 0, 0, []), (.ifCond .le 7, 3, 0, 221, [])]
def Bnumber_217 : List RI := [(.iconst 2, 1, 0, 0, []), (.goto 16, 3, 0, 234, [])]
def Bnumber_221 : List RI := [(.lload_n 3, 1, 0, 3, []), (.ldc2_w 405, 3, 2147483648, 0, []), (.lcmp, 1, 0, 0, []), (.ifCond .ne 7, 3, 0, 233, [])]
def Bnumber_229 : List RI := [(.iconst 1, 1, 0, 0, []), (.goto 4, 3, 0, 234, [])]
def Bnumber_233 : List RI := [(.iconst 0, 1, 0, 0, [])]
def Bnumber_234 : List RI := [(.iastore, 1, 0, 0, [])]
def Bnumber_235 : List RI := [(.return_, 1, 0, 0, [])]
def Bnumber : RB := [(0, Bnumber_0), (7, Bnumber_7), (22, Bnumber_22), (43, Bnumber_43), (51, Bnumber_51), (58, Bnumber_58), (61, Bnumber_61), (87, Bnumber_87), (105, Bnumber_105), (109, Bnumber_109), (110, Bnumber_110), (120, Bnumber_120), (130, Bnumber_130), (141, Bnumber_141), (146, Bnumber_146), (147, Bnumber_147), (164, Bnumber_164), (174, Bnumber_174), (178, Bnumber_178), (184, Bnumber_184), (188, Bnumber_188), (189, Bnumber_189), (193, Bnumber_193), (203, Bnumber_203), (209, Bnumber_209), (217, Bnumber_217), (221, Bnumber_221), (229, Bnumber_229), (233, Bnumber_233), (234, Bnumber_234), (235, Bnumber_235)]
set_option maxRecDepth 100000 in
theorem okBnumber : rokM cX12_number 7 none Bnumber = true := by sorry
def Bcharacter_0 : List RI := [(.aload_n 0, 1, 0, 0, []), (.aload_n 0, 1, 0, 0, []), (.getfield 320, 3, 0, 13, []), (.iconst 1, 1, 0, 0, []), (.iadd, 1, 0, 0, []), (.invokevirtual 326, 3, 1, 3, []), (.istore_n 2, 1, 0, 2, []), (.aload_n 0, 1, 0, 0, []), (.getfield 320, 3, 0, 13, []), (.iconst 2, 1, 0, 0, []), (.iadd, 1, 0, 0, []), (.aload_n 0, 1, 0, 0, []), (.getfield 317, 3, 0, 12, []), (.if_icmp .ge 47, 3, 0, 68, [])]
def Bcharacter_24 : List RI := [(.iload_n 2, 1, 0, 2, []), (.bipush 32, 2, 0, 0, []), (.if_icmp .lt 41, 3, 0, 68, [])]
def Bcharacter_30 : List RI := [(.iload_n 2, 1, 0, 2, []), (.bipush 127, 2, 0, 0, []), (.if_icmp .ge 35, 3, 0, 68, [])]
def Bcharacter_36 : List RI := [(.iload_n 2, 1, 0, 2, []), (.bipush 39, 2, 0, 0, []), (.if_icmp .eq 29, 3, 0, 68, [])]
def Bcharacter_42 : List RI := [(.iload_n 2, 1, 0, 2, []), (.bipush 92, 2, 0, 0, []), (.if_icmp .eq 23, 3, 0, 68, [])]
def Bcharacter_48 : List RI := [(.aload_n 0, 1, 0, 0, []), (.getfield 7, 3, 3, 0, []), (.aload_n 0, 1, 0, 0, []), (.getfield 320, 3, 0, 13, []), (.iconst 2, 1, 0, 0, []), (.iadd, 1, 0, 0, []), (.iaload, 1, 0, 0, []), (.bipush 39, 2, 0, 0, []), (.if_icmp .ne 7, 3, 0, 68, [])]
def Bcharacter_64 : List RI := [(.iconst 1, 1, 0, 0, []), (.goto 4, 3, 0, 69, [])]
def Bcharacter_68 : List RI := [(.iconst 0, 1, 0, 0, [])]
def Bcharacter_69 : List RI := [(.istore_n 3, 1, 0, 3, []), (.aload_n 0, 1, 0, 0, []), (.getfield 13, 3, 3, 3, []), (.iload_n 1, 1, 0, 1, []), (.iload_n 3, 1, 0, 3, []), (.ifCond .eq 7, 3, 0, 83, [])]
def Bcharacter_79 : List RI := [(.iconst 3, 1, 0, 0, []), (.goto 5, 3, 0, 85, [])]
def Bcharacter_83 : List RI := [(.bipush 6, 2, 0, 0, [])]
def Bcharacter_85 : List RI := [(.iastore, 1, 0, 0, []), (.aload_n 0, 1, 0, 0, []), (.getfield 32, 3, 5, 9, []), (.iload_n 1, 1, 0, 1, []), (.iload_n 2, 1, 0, 2, []), (.i2l, 1, 0, 0, []), (.lastore, 1, 0, 0, []), (.aload_n 0, 1, 0, 0, []), (.dup, 1, 0, 0, []), (.getfield 320, 3, 0, 13, []), (.iload_n 3, 1, 0, 3, []), (.ifCond .eq 7, 3, 0, 107, [])]
def Bcharacter_103 : List RI := [(.iconst 3, 1, 0, 0, []), (.goto 4, 3, 0, 108, [])]
def Bcharacter_107 : List RI := [(.iconst 1, 1, 0, 0, [])]
def Bcharacter_108 : List RI := [(.iadd, 1, 0, 0, []), (.putfield 320, 3, 0, 13, []), (.return_, 1, 0, 0, [])]
def Bcharacter : RB := [(0, Bcharacter_0), (24, Bcharacter_24), (30, Bcharacter_30), (36, Bcharacter_36), (42, Bcharacter_42), (48, Bcharacter_48), (64, Bcharacter_64), (68, Bcharacter_68), (69, Bcharacter_69), (79, Bcharacter_79), (83, Bcharacter_83), (85, Bcharacter_85), (103, Bcharacter_103), (107, Bcharacter_107), (108, Bcharacter_108)]
set_option maxRecDepth 100000 in
theorem okBcharacter : rokM cX12_character 4 none Bcharacter = true := by sorry
def Bsign_0 : List RI := [(.aload_n 0, 1, 0, 0, []), (.getfield 7, 3, 3, 0, []), (.aload_n 0, 1, 0, 0, []), (.getfield 320, 3, 0, 13, []), (.iaload, 1, 0, 0, []), (.istore_n 2, 1, 0, 2, []), (.aload_n 0, 1, 0, 0, []), (.aload_n 0, 1, 0, 0, []), (.getfield 320, 3, 0, 13, []), (.iconst 1, 1, 0, 0, []), (.iadd, 1, 0, 0, []), (.invokevirtual 326, 3, 1, 3, []), (.istore_n 3, 1, 0, 3, []), (.aload_n 0, 1, 0, 0, []), (.aload_n 0, 1, 0, 0, []), (.getfield 320, 3, 0, 13, []), (.iconst 2, 1, 0, 0, []), (.iadd, 1, 0, 0, []), (.invokevirtual 326, 3, 1, 3, []), (.istore 4, 2, 0, 0, []), (.iload_n 2, 1, 0, 2, []), (.istore 5, 2, 0, 0, []), (.iconst 1, 1, 0, 0, []), (.istore 6, 2, 0, 0, []), (.iload_n 2, 1, 0, 2, []), (.bipush 62, 2, 0, 0, []), (.if_icmp .ne 27, 3, 0, 69, [])]
def Bsign_45 : List RI := [(.iload_n 3, 1, 0, 3, []), (.bipush 62, 2, 0, 0, []), (.if_icmp .ne 21, 3, 0, 69, [])]
def Bsign_51 : List RI := [(.iload 4, 2, 0, 0, []), (.bipush 62, 2, 0, 0, []), (.if_icmp .ne 14, 3, 0, 69, [])]
def Bsign_58 : List RI := [(.sipush 306, 3, 0, 0, []), (.istore 5, 2, 0, 0, []), (.iconst 3, 1, 0, 0, []), (.istore 6, 2, 0, 0, []), (.goto 211, 3, 0, 277, [])]
def Bsign_69 : List RI := [(.iload_n 2, 1, 0, 2, []), (.bipush 62, 2, 0, 0, []), (.if_icmp .eq 9, 3, 0, 81, [])]
def Bsign_75 : List RI := [(.iload_n 2, 1, 0, 2, []), (.bipush 60, 2, 0, 0, []), (.if_icmp .ne 31, 3, 0, 109, [])]
def Bsign_81 : List RI := [(.iload_n 3, 1, 0, 3, []), (.iload_n 2, 1, 0, 2, []), (.if_icmp .ne 26, 3, 0, 109, [])]
def Bsign_86 : List RI := [(.iload_n 2, 1, 0, 2, []), (.bipush 62, 2, 0, 0, []), (.if_icmp .ne 9, 3, 0, 98, [])]
def Bsign_92 : List RI := [(.sipush 305, 3, 0, 0, []), (.goto 6, 3, 0, 101, [])]
def Bsign_98 : List RI := [(.sipush 304, 3, 0, 0, [])]
def Bsign_101 : List RI := [(.istore 5, 2, 0, 0, []), (.iconst 2, 1, 0, 0, []), (.istore 6, 2, 0, 0, []), (.goto 171, 3, 0, 277, [])]
def Bsign_109 : List RI := [(.iload_n 2, 1, 0, 2, []), (.bipush 38, 2, 0, 0, []), (.if_icmp .ne 9, 3, 0, 121, [])]
def Bsign_115 : List RI := [(.iload_n 3, 1, 0, 3, []), (.bipush 38, 2, 0, 0, []), (.if_icmp .eq 15, 3, 0, 133, [])]
def Bsign_121 : List RI := [(.iload_n 2, 1, 0, 2, []), (.bipush 124, 2, 0, 0, []), (.if_icmp .ne 32, 3, 0, 156, [])]
def Bsign_127 : List RI := [(.iload_n 3, 1, 0, 3, []), (.bipush 124, 2, 0, 0, []), (.if_icmp .ne 26, 3, 0, 156, [])]
def Bsign_133 : List RI := [(.iload_n 2, 1, 0, 2, []), (.bipush 38, 2, 0, 0, []), (.if_icmp .ne 9, 3, 0, 145, [])]
def Bsign_139 : List RI := [(.sipush 307, 3, 0, 0, []), (.goto 6, 3, 0, 148, [])]
def Bsign_145 : List RI := [(.sipush 308, 3, 0, 0, [])]
def Bsign_148 : List RI := [(.istore 5, 2, 0, 0, []), (.iconst 2, 1, 0, 0, []), (.istore 6, 2, 0, 0, []), (.goto 124, 3, 0, 277, [])]
def Bsign_156 : List RI := [(.iload_n 2, 1, 0, 2, []), (.bipush 43, 2, 0, 0, []), (.if_icmp .ne 9, 3, 0, 168, [])]
def Bsign_162 : List RI := [(.iload_n 3, 1, 0, 3, []), (.bipush 43, 2, 0, 0, []), (.if_icmp .eq 15, 3, 0, 180, [])]
def Bsign_168 : List RI := [(.iload_n 2, 1, 0, 2, []), (.bipush 45, 2, 0, 0, []), (.if_icmp .ne 32, 3, 0, 203, [])]
def Bsign_174 : List RI := [(.iload_n 3, 1, 0, 3, []), (.bipush 45, 2, 0, 0, []), (.if_icmp .ne 26, 3, 0, 203, [])]
def Bsign_180 : List RI := [(.iload_n 2, 1, 0, 2, []), (.bipush 43, 2, 0, 0, []), (.if_icmp .ne 9, 3, 0, 192, [])]
def Bsign_186 : List RI := [(.sipush 309, 3, 0, 0, []), (.goto 6, 3, 0, 195, [])]
def Bsign_192 : List RI := [(.sipush 310, 3, 0, 0, [])]
def Bsign_195 : List RI := [(.istore 5, 2, 0, 0, []), (.iconst 2, 1, 0, 0, []), (.istore 6, 2, 0, 0, []), (.goto 77, 3, 0, 277, [])]
def Bsign_203 : List RI := [(.iload_n 3, 1, 0, 3, []), (.bipush 61, 2, 0, 0, []), (.if_icmp .ne 71, 3, 0, 277, [])]
def Bsign_209 : List RI := [(.iload_n 2, 1, 0, 2, []), (.bipush 61, 2, 0, 0, []), (.if_icmp .eq 21, 3, 0, 233, [])]
def Bsign_215 : List RI := [(.iload_n 2, 1, 0, 2, []), (.bipush 33, 2, 0, 0, []), (.if_icmp .eq 15, 3, 0, 233, [])]
def Bsign_221 : List RI := [(.iload_n 2, 1, 0, 2, []), (.bipush 60, 2, 0, 0, []), (.if_icmp .eq 9, 3, 0, 233, [])]
def Bsign_227 : List RI := [(.iload_n 2, 1, 0, 2, []), (.bipush 62, 2, 0, 0, []), (.if_icmp .ne 47, 3, 0, 277, [])]
def Bsign_233 : List RI := [(.iload_n 2, 1, 0, 2, []), (.bipush 61, 2, 0, 0, []), (.if_icmp .ne 9, 3, 0, 245, [])]
def Bsign_239 : List RI := [(.sipush 300, 3, 0, 0, []), (.goto 30, 3, 0, 272, [])]
def Bsign_245 : List RI := [(.iload_n 2, 1, 0, 2, []), (.bipush 33, 2, 0, 0, []), (.if_icmp .ne 9, 3, 0, 257, [])]
def Bsign_251 : List RI := [(.sipush 301, 3, 0, 0, []), (.goto 18, 3, 0, 272, [])]
def Bsign_257 : List RI := [(.iload_n 2, 1, 0, 2, []), (.bipush 60, 2, 0, 0, []), (.if_icmp .ne 9, 3, 0, 269, [])]
def Bsign_263 : List RI := [(.sipush 302, 3, 0, 0, []), (.goto 6, 3, 0, 272, [])]
def Bsign_269 : List RI := [(.sipush 303, 3, 0, 0, [])]
def Bsign_272 : List RI := [(.istore 5, 2, 0, 0, []), (.iconst 2, 1, 0, 0, []), (.istore 6, 2, 0, 0, [])]
def Bsign_277 : List RI := [(.iload 5, 2, 0, 0, []), (.sipush 306, 3, 0, 0, []), (.if_icmp .eq 19, 3, 0, 301, [])]
def Bsign_285 : List RI := [(.iload 5, 2, 0, 0, []), (.sipush 305, 3, 0, 0, []), (.if_icmp .eq 11, 3, 0, 301, [])]
def Bsign_293 : List RI := [(.iload 5, 2, 0, 0, []), (.sipush 304, 3, 0, 0, []), (.if_icmp .ne 7, 3, 0, 305, [])]
def Bsign_301 : List RI := [(.iconst 1, 1, 0, 0, []), (.goto 4, 3, 0, 306, [])]
def Bsign_305 : List RI := [(.iconst 0, 1, 0, 0, [])]
def Bsign_306 : List RI := [(.istore 7, 2, 0, 0, []), (.iload 6, 2, 0, 0, []), (.iconst 1, 1, 0, 0, []), (.if_icmp .ne 55, 3, 0, 366, [])]
def Bsign_314 : List RI := [(.iload_n 2, 1, 0, 2, []), (.bipush 43, 2, 0, 0, []), (.if_icmp .eq 45, 3, 0, 362, [])]
def Bsign_320 : List RI := [(.iload_n 2, 1, 0, 2, []), (.bipush 45, 2, 0, 0, []), (.if_icmp .eq 39, 3, 0, 362, [])]
def Bsign_326 : List RI := [(.iload_n 2, 1, 0, 2, []), (.bipush 42, 2, 0, 0, []), (.if_icmp .eq 33, 3, 0, 362, [])]
def Bsign_332 : List RI := [(.iload_n 2, 1, 0, 2, []), (.bipush 47, 2, 0, 0, []), (.if_icmp .eq 27, 3, 0, 362, [])]
def Bsign_338 : List RI := [(.iload_n 2, 1, 0, 2, []), (.bipush 37, 2, 0, 0, []), (.if_icmp .eq 21, 3, 0, 362, [])]
def Bsign_344 : List RI := [(.iload_n 2, 1, 0, 2, []), (.bipush 38, 2, 0, 0, []), (.if_icmp .eq 15, 3, 0, 362, [])]
def Bsign_350 : List RI := [(.iload_n 2, 1, 0, 2, []), (.bipush 124, 2, 0, 0, []), (.if_icmp .eq 9, 3, 0, 362, [])]
def Bsign_356 : List RI := [(.iload_n 2, 1, 0, 2, []), (.bipush 94, 2, 0, 0, []), (.if_icmp .ne 7, 3, 0, 366, [])]
def Bsign_362 : List RI := [(.iconst 1, 1, 0, 0, []), (.goto 4, 3, 0, 367, [])]
def Bsign_366 : List RI := [(.iconst 0, 1, 0, 0, [])]
def Bsign_367 : List RI := [(.istore 8, 2, 0, 0, []), (.iload 7, 2, 0, 0, []), (.ifCond .ne 8, 3, 0, 379, [])]
def Bsign_374 : List RI := [(.iload 8, 2, 0, 0, []), (.ifCond .eq 30, 3, 0, 406, [])]
def Bsign_379 : List RI := [(.aload_n 0, 1, 0, 0, []), (.aload_n 0, 1, 0, 0, []), (.getfield 320, 3, 0, 13, []), (.iload 6, 2, 0, 0, []), (.iadd, 1, 0, 0, []), (.invokevirtual 326, 3, 1, 3, []), (.bipush 61, 2, 0, 0, []), (.if_icmp .ne 14, 3, 0, 406, [])]
def Bsign_395 : List RI := [(.sipush 400, 3, 0, 0, []), (.iload 5, 2, 0, 0, []), (.iadd, 1, 0, 0, []), (.istore 5, 2, 0, 0, []), (.iinc 6 1, 3, 0, 0, [])]
def Bsign_406 : List RI := [(.iload 6, 2, 0, 0, []), (.iconst 1, 1, 0, 0, []), (.if_icmp .gt 86, 3, 0, 495, [])]
def Bsign_412 : List RI := [(.iload 8, 2, 0, 0, []), (.ifCond .ne 81, 3, 0, 495, [])]
def Bsign_417 : List RI := [(.iload_n 2, 1, 0, 2, []), (.bipush 40, 2, 0, 0, []), (.if_icmp .eq 75, 3, 0, 495, [])]
def Bsign_423 : List RI := [(.iload_n 2, 1, 0, 2, []), (.bipush 41, 2, 0, 0, []), (.if_icmp .eq 69, 3, 0, 495, [])]
def Bsign_429 : List RI := [(.iload_n 2, 1, 0, 2, []), (.bipush 123, 2, 0, 0, []), (.if_icmp .eq 63, 3, 0, 495, [])]
def Bsign_435 : List RI := [(.iload_n 2, 1, 0, 2, []), (.bipush 125, 2, 0, 0, []), (.if_icmp .eq 57, 3, 0, 495, [])]
def Bsign_441 : List RI := [(.iload_n 2, 1, 0, 2, []), (.bipush 59, 2, 0, 0, []), (.if_icmp .eq 51, 3, 0, 495, [])]
def Bsign_447 : List RI := [(.iload_n 2, 1, 0, 2, []), (.bipush 44, 2, 0, 0, []), (.if_icmp .eq 45, 3, 0, 495, [])]
def Bsign_453 : List RI := [(.iload_n 2, 1, 0, 2, []), (.bipush 58, 2, 0, 0, []), (.if_icmp .eq 39, 3, 0, 495, [])]
def Bsign_459 : List RI := [(.iload_n 2, 1, 0, 2, []), (.bipush 63, 2, 0, 0, []), (.if_icmp .eq 33, 3, 0, 495, [])]
def Bsign_465 : List RI := [(.iload_n 2, 1, 0, 2, []), (.bipush 61, 2, 0, 0, []), (.if_icmp .eq 27, 3, 0, 495, [])]
def Bsign_471 : List RI := [(.iload_n 2, 1, 0, 2, []), (.bipush 60, 2, 0, 0, []), (.if_icmp .eq 21, 3, 0, 495, [])]
def Bsign_477 : List RI := [(.iload_n 2, 1, 0, 2, []), (.bipush 62, 2, 0, 0, []), (.if_icmp .eq 15, 3, 0, 495, [])]
def Bsign_483 : List RI := [(.iload_n 2, 1, 0, 2, []), (.bipush 33, 2, 0, 0, []), (.if_icmp .eq 9, 3, 0, 495, [])]
def Bsign_489 : List RI := [(.iload_n 2, 1, 0, 2, []), (.bipush 126, 2, 0, 0, []), (.if_icmp .ne 7, 3, 0, 499, [])]
def Bsign_495 : List RI := [(.iconst 1, 1, 0, 0, []), (.goto 4, 3, 0, 500, [])]
def Bsign_499 : List RI := [(.iconst 0, 1, 0, 0, [])]
def Bsign_500 : List RI := [(.istore 9, 2, 0, 0, []), (.aload_n 0, 1, 0, 0, []), (.getfield 13, 3, 3, 3, []), (.iload_n 1, 1, 0, 1, []), (.iload 9, 2, 0, 0, []), (.ifCond .eq 7, 3, 0, 516, [])]
def Bsign_512 : List RI := [(.iconst 5, 1, 0, 0, []), (.goto 5, 3, 0, 518, [])]
def Bsign_516 : List RI := [(.bipush 6, 2, 0, 0, [])]
def Bsign_518 : List RI := [(.iastore, 1, 0, 0, []), (.aload_n 0, 1, 0, 0, []), (.getfield 22, 3, 3, 6, []), (.iload_n 1, 1, 0, 1, []), (.iload 5, 2, 0, 0, []), (.iastore, 1, 0, 0, []), (.aload_n 0, 1, 0, 0, []), (.dup, 1, 0, 0, []), (.getfield 320, 3, 0, 13, []), (.iload 6, 2, 0, 0, []), (.iadd, 1, 0, 0, []), (.putfield 320, 3, 0, 13, []), (.return_, 1, 0, 0, [])]
def Bsign : RB := [(0, Bsign_0), (45, Bsign_45), (51, Bsign_51), (58, Bsign_58), (69, Bsign_69), (75, Bsign_75), (81, Bsign_81), (86, Bsign_86), (92, Bsign_92), (98, Bsign_98), (101, Bsign_101), (109, Bsign_109), (115, Bsign_115), (121, Bsign_121), (127, Bsign_127), (133, Bsign_133), (139, Bsign_139), (145, Bsign_145), (148, Bsign_148), (156, Bsign_156), (162, Bsign_162), (168, Bsign_168), (174, Bsign_174), (180, Bsign_180), (186, Bsign_186), (192, Bsign_192), (195, Bsign_195), (203, Bsign_203), (209, Bsign_209), (215, Bsign_215), (221, Bsign_221), (227, Bsign_227), (233, Bsign_233), (239, Bsign_239), (245, Bsign_245), (251, Bsign_251), (257, Bsign_257), (263, Bsign_263), (269, Bsign_269), (272, Bsign_272), (277, Bsign_277), (285, Bsign_285), (293, Bsign_293), (301, Bsign_301), (305, Bsign_305), (306, Bsign_306), (314, Bsign_314), (320, Bsign_320), (326, Bsign_326), (332, Bsign_332), (338, Bsign_338), (344, Bsign_344), (350, Bsign_350), (356, Bsign_356), (362, Bsign_362), (366, Bsign_366), (367, Bsign_367), (374, Bsign_374), (379, Bsign_379), (395, Bsign_395), (406, Bsign_406), (412, Bsign_412), (417, Bsign_417), (423, Bsign_423), (429, Bsign_429), (435, Bsign_435), (441, Bsign_441), (447, Bsign_447), (453, Bsign_453), (459, Bsign_459), (465, Bsign_465), (471, Bsign_471), (477, Bsign_477), (483, Bsign_483), (489, Bsign_489), (495, Bsign_495), (499, Bsign_499), (500, Bsign_500), (512, Bsign_512), (516, Bsign_516), (518, Bsign_518)]
set_option maxRecDepth 100000 in
theorem okBsign : rokM cX12_sign 10 none Bsign = true := by sorry
def Bwrong_0 : List RI := [(.aload_n 0, 1, 0, 0, []), (.getfield 407, 3, 0, 15, []), (.ifCond .ne 18, 3, 0, 22, [])]
def Bwrong_7 : List RI := [(.aload_n 0, 1, 0, 0, []), (.iload_n 1, 1, 0, 1, []), (.putfield 407, 3, 0, 15, []), (.aload_n 0, 1, 0, 0, []), (.aload_n 0, 1, 0, 0, []), (.getfield 16, 3, 3, 4, []), (.iload_n 2, 1, 0, 2, []), (.iaload, 1, 0, 0, []), (.putfield 410, 3, 0, 16, [])]
def Bwrong_22 : List RI := [(.iconst 0, 1, 0, 0, []), (.ireturn, 1, 2, 0, [])]
def Bwrong : RB := [(0, Bwrong_0), (7, Bwrong_7), (22, Bwrong_22)]
set_option maxRecDepth 100000 in
theorem okBwrong : rokM cX12_wrong 3 (some .boolean) Bwrong = true := by sorry
def Bcant_0 : List RI := [(.aload_n 0, 1, 0, 0, []), (.aload_n 0, 1, 0, 0, []), (.getfield 13, 3, 3, 3, []), (.aload_n 0, 1, 0, 0, []), (.getfield 413, 3, 0, 14, []), (.iaload, 1, 0, 0, []), (.bipush 6, 2, 0, 0, []), (.if_icmp .ne 7, 3, 0, 19, [])]
def Bcant_15 : List RI := [(.iconst 1, 1, 0, 0, []), (.goto 4, 3, 0, 20, [])]
def Bcant_19 : List RI := [(.iconst 2, 1, 0, 0, [])]
def Bcant_20 : List RI := [(.aload_n 0, 1, 0, 0, []), (.getfield 413, 3, 0, 14, []), (.invokevirtual 416, 3, 2, 12, []), (.ireturn, 1, 2, 0, [])]
def Bcant : RB := [(0, Bcant_0), (15, Bcant_15), (19, Bcant_19), (20, Bcant_20)]
set_option maxRecDepth 100000 in
theorem okBcant : rokM cX12_cant 1 (some .boolean) Bcant = true := by sorry
def BisSign_0 : List RI := [(.aload_n 0, 1, 0, 0, []), (.getfield 13, 3, 3, 3, []), (.aload_n 0, 1, 0, 0, []), (.getfield 413, 3, 0, 14, []), (.iaload, 1, 0, 0, []), (.iconst 5, 1, 0, 0, []), (.if_icmp .ne 20, 3, 0, 30, [])]
def BisSign_13 : List RI := [(.aload_n 0, 1, 0, 0, []), (.getfield 22, 3, 3, 6, []), (.aload_n 0, 1, 0, 0, []), (.getfield 413, 3, 0, 14, []), (.iaload, 1, 0, 0, []), (.iload_n 1, 1, 0, 1, []), (.if_icmp .ne 7, 3, 0, 30, [])]
def BisSign_26 : List RI := [(.iconst 1, 1, 0, 0, []), (.goto 4, 3, 0, 31, [])]
def BisSign_30 : List RI := [(.iconst 0, 1, 0, 0, [])]
def BisSign_31 : List RI := [(.ireturn, 1, 2, 0, [])]
def BisSign : RB := [(0, BisSign_0), (13, BisSign_13), (26, BisSign_26), (30, BisSign_30), (31, BisSign_31)]
set_option maxRecDepth 100000 in
theorem okBisSign : rokM cX12_isSign 2 (some .boolean) BisSign = true := by sorry
def BisWord_0 : List RI := [(.aload_n 0, 1, 0, 0, []), (.getfield 13, 3, 3, 3, []), (.aload_n 0, 1, 0, 0, []), (.getfield 413, 3, 0, 14, []), (.iaload, 1, 0, 0, []), (.iconst 4, 1, 0, 0, []), (.if_icmp .ne 20, 3, 0, 30, [])]
def BisWord_13 : List RI := [(.aload_n 0, 1, 0, 0, []), (.getfield 22, 3, 3, 6, []), (.aload_n 0, 1, 0, 0, []), (.getfield 413, 3, 0, 14, []), (.iaload, 1, 0, 0, []), (.iload_n 1, 1, 0, 1, []), (.if_icmp .ne 7, 3, 0, 30, [])]
def BisWord_26 : List RI := [(.iconst 1, 1, 0, 0, []), (.goto 4, 3, 0, 31, [])]
def BisWord_30 : List RI := [(.iconst 0, 1, 0, 0, [])]
def BisWord_31 : List RI := [(.ireturn, 1, 2, 0, [])]
def BisWord : RB := [(0, BisWord_0), (13, BisWord_13), (26, BisWord_26), (30, BisWord_30), (31, BisWord_31)]
set_option maxRecDepth 100000 in
theorem okBisWord : rokM cX12_isWord 2 (some .boolean) BisWord = true := by sorry
def BisSignAt_0 : List RI := [(.iload_n 1, 1, 0, 1, []), (.aload_n 0, 1, 0, 0, []), (.getfield 323, 3, 0, 2, []), (.if_icmp .ge 27, 3, 0, 32, [])]
def BisSignAt_8 : List RI := [(.aload_n 0, 1, 0, 0, []), (.getfield 13, 3, 3, 3, []), (.iload_n 1, 1, 0, 1, []), (.iaload, 1, 0, 0, []), (.iconst 5, 1, 0, 0, []), (.if_icmp .ne 17, 3, 0, 32, [])]
def BisSignAt_18 : List RI := [(.aload_n 0, 1, 0, 0, []), (.getfield 22, 3, 3, 6, []), (.iload_n 1, 1, 0, 1, []), (.iaload, 1, 0, 0, []), (.iload_n 2, 1, 0, 2, []), (.if_icmp .ne 7, 3, 0, 32, [])]
def BisSignAt_28 : List RI := [(.iconst 1, 1, 0, 0, []), (.goto 4, 3, 0, 33, [])]
def BisSignAt_32 : List RI := [(.iconst 0, 1, 0, 0, [])]
def BisSignAt_33 : List RI := [(.ireturn, 1, 2, 0, [])]
def BisSignAt : RB := [(0, BisSignAt_0), (8, BisSignAt_8), (18, BisSignAt_18), (28, BisSignAt_28), (32, BisSignAt_32), (33, BisSignAt_33)]
set_option maxRecDepth 100000 in
theorem okBisSignAt : rokM cX12_isSignAt 3 (some .boolean) BisSignAt = true := by sorry
def Btake_0 : List RI := [(.aload_n 0, 1, 0, 0, []), (.getfield 413, 3, 0, 14, []), (.sipush 500, 3, 0, 0, []), (.if_icmp .lt 13, 3, 0, 20, [])]
def Btake_10 : List RI := [(.aload_n 0, 1, 0, 0, []), (.iconst 3, 1, 0, 0, []), (.aload_n 0, 1, 0, 0, []), (.getfield 413, 3, 0, 14, []), (.invokevirtual 416, 3, 2, 12, []), (.ireturn, 1, 2, 0, [])]
def Btake_20 : List RI := [(.aload_n 0, 1, 0, 0, []), (.dup, 1, 0, 0, []), (.getfield 413, 3, 0, 14, []), (.iconst 1, 1, 0, 0, []), (.iadd, 1, 0, 0, []), (.putfield 413, 3, 0, 14, []), (.iconst 1, 1, 0, 0, []), (.ireturn, 1, 2, 0, [])]
def Btake : RB := [(0, Btake_0), (10, Btake_10), (20, Btake_20)]
set_option maxRecDepth 100000 in
theorem okBtake : rokM cX12_take 1 (some .boolean) Btake = true := by sorry
def Bwant_0 : List RI := [(.aload_n 0, 1, 0, 0, []), (.iload_n 1, 1, 0, 1, []), (.invokevirtual 420, 3, 1, 14, []), (.ifCond .eq 10, 3, 0, 15, [])]
def Bwant_8 : List RI := [(.aload_n 0, 1, 0, 0, []), (.invokevirtual 423, 3, 0, 17, []), (.goto 7, 3, 0, 19, [])]
def Bwant_15 : List RI := [(.aload_n 0, 1, 0, 0, []), (.invokevirtual 427, 3, 0, 13, [])]
def Bwant_19 : List RI := [(.ireturn, 1, 2, 0, [])]
def Bwant : RB := [(0, Bwant_0), (8, Bwant_8), (15, Bwant_15), (19, Bwant_19)]
set_option maxRecDepth 100000 in
theorem okBwant : rokM cX12_want 2 (some .boolean) Bwant = true := by sorry
def Benter_0 : List RI := [(.aload_n 0, 1, 0, 0, []), (.dup, 1, 0, 0, []), (.getfield 430, 3, 0, 17, []), (.iconst 1, 1, 0, 0, []), (.iadd, 1, 0, 0, []), (.putfield 430, 3, 0, 17, []), (.aload_n 0, 1, 0, 0, []), (.getfield 430, 3, 0, 17, []), (.bipush 20, 2, 0, 0, []), (.if_icmp .le 31, 3, 0, 47, [])]
def Benter_19 : List RI := [(.aload_n 0, 1, 0, 0, []), (.aload_n 0, 1, 0, 0, []), (.getfield 13, 3, 3, 3, []), (.aload_n 0, 1, 0, 0, []), (.getfield 413, 3, 0, 14, []), (.iaload, 1, 0, 0, []), (.bipush 6, 2, 0, 0, []), (.if_icmp .ne 7, 3, 0, 38, [])]
def Benter_34 : List RI := [(.iconst 1, 1, 0, 0, []), (.goto 4, 3, 0, 39, [])]
def Benter_38 : List RI := [(.iconst 3, 1, 0, 0, [])]
def Benter_39 : List RI := [(.aload_n 0, 1, 0, 0, []), (.getfield 413, 3, 0, 14, []), (.invokevirtual 416, 3, 2, 12, []), (.ireturn, 1, 2, 0, [])]
def Benter_47 : List RI := [(.iconst 1, 1, 0, 0, []), (.ireturn, 1, 2, 0, [])]
def Benter : RB := [(0, Benter_0), (19, Benter_19), (34, Benter_34), (38, Benter_38), (39, Benter_39), (47, Benter_47)]
set_option maxRecDepth 100000 in
theorem okBenter : rokM cX12_enter 1 (some .boolean) Benter = true := by sorry
def Bemit_0 : List RI := [(.aload_n 0, 1, 0, 0, []), (.getfield 433, 3, 0, 18, []), (.istore 4, 2, 0, 0, []), (.aload_n 0, 1, 0, 0, []), (.dup, 1, 0, 0, []), (.getfield 433, 3, 0, 18, []), (.iconst 1, 1, 0, 0, []), (.iadd, 1, 0, 0, []), (.putfield 433, 3, 0, 18, []), (.aload_n 0, 1, 0, 0, []), (.getfield 42, 3, 3, 19, []), (.iload 4, 2, 0, 0, []), (.iload_n 1, 1, 0, 1, []), (.iastore, 1, 0, 0, []), (.aload_n 0, 1, 0, 0, []), (.getfield 45, 3, 3, 20, []), (.iload 4, 2, 0, 0, []), (.iload_n 2, 1, 0, 2, []), (.iastore, 1, 0, 0, []), (.aload_n 0, 1, 0, 0, []), (.getfield 48, 3, 3, 21, []), (.iload 4, 2, 0, 0, []), (.iconst 0, 1, 0, 0, []), (.iastore, 1, 0, 0, []), (.aload_n 0, 1, 0, 0, []), (.getfield 51, 3, 3, 22, []), (.iload 4, 2, 0, 0, []), (.iload_n 3, 1, 0, 3, []), (.iastore, 1, 0, 0, []), (.aload_n 0, 1, 0, 0, []), (.getfield 54, 3, 3, 23, []), (.iload 4, 2, 0, 0, []), (.iload_n 3, 1, 0, 3, []), (.iastore, 1, 0, 0, []), (.aload_n 0, 1, 0, 0, []), (.getfield 57, 3, 3, 24, []), (.iload 4, 2, 0, 0, []), (.iload_n 3, 1, 0, 3, []), (.iastore, 1, 0, 0, []), (.iload 4, 2, 0, 0, []), (.ireturn, 1, 1, 0, [])]
def Bemit : RB := [(0, Bemit_0)]
set_option maxRecDepth 100000 in
theorem okBemit : rokM cX12_emit 5 (some .int) Bemit = true := by sorry
def BemitExp_0 : List RI := [(.aload_n 0, 1, 0, 0, []), (.iload_n 1, 1, 0, 1, []), (.iload_n 2, 1, 0, 2, []), (.iload_n 3, 1, 0, 3, []), (.invokevirtual 436, 3, 3, 20, []), (.istore 6, 2, 0, 0, []), (.aload_n 0, 1, 0, 0, []), (.getfield 54, 3, 3, 23, []), (.iload 6, 2, 0, 0, []), (.iload 4, 2, 0, 0, []), (.iastore, 1, 0, 0, []), (.aload_n 0, 1, 0, 0, []), (.getfield 57, 3, 3, 24, []), (.iload 6, 2, 0, 0, []), (.iload 5, 2, 0, 0, []), (.iastore, 1, 0, 0, []), (.iload 6, 2, 0, 0, []), (.ireturn, 1, 1, 0, [])]
def BemitExp : RB := [(0, BemitExp_0)]
set_option maxRecDepth 100000 in
theorem okBemitExp : rokM cX12_emitExp 7 (some .int) BemitExp = true := by sorry
def Bstrength_0 : List RI := [(.iload_n 1, 1, 0, 1, []), (.lookupswitch 188 #[(37, 185), (38, 171), (42, 185), (43, 182), (45, 182), (47, 185), (60, 176), (62, 176), (94, 169), (124, 167), (300, 173), (301, 173), (302, 176), (303, 176), (304, 179), (305, 179), (306, 179), (307, 165), (308, 163)], 163, 0, 189, [(37, 186), (38, 172), (42, 186), (43, 183), (45, 183), (47, 186), (60, 177), (62, 177), (94, 170), (124, 168), (300, 174), (301, 174), (302, 177), (303, 177), (304, 180), (305, 180), (306, 180), (307, 166), (308, 164)])]
def Bstrength_164 : List RI := [(.iconst 1, 1, 0, 0, []), (.ireturn, 1, 1, 0, [])]
def Bstrength_166 : List RI := [(.iconst 2, 1, 0, 0, []), (.ireturn, 1, 1, 0, [])]
def Bstrength_168 : List RI := [(.iconst 3, 1, 0, 0, []), (.ireturn, 1, 1, 0, [])]
def Bstrength_170 : List RI := [(.iconst 4, 1, 0, 0, []), (.ireturn, 1, 1, 0, [])]
def Bstrength_172 : List RI := [(.iconst 5, 1, 0, 0, []), (.ireturn, 1, 1, 0, [])]
def Bstrength_174 : List RI := [(.bipush 6, 2, 0, 0, []), (.ireturn, 1, 1, 0, [])]
def Bstrength_177 : List RI := [(.bipush 7, 2, 0, 0, []), (.ireturn, 1, 1, 0, [])]
def Bstrength_180 : List RI := [(.bipush 8, 2, 0, 0, []), (.ireturn, 1, 1, 0, [])]
def Bstrength_183 : List RI := [(.bipush 9, 2, 0, 0, []), (.ireturn, 1, 1, 0, [])]
def Bstrength_186 : List RI := [(.bipush 10, 2, 0, 0, []), (.ireturn, 1, 1, 0, [])]
def Bstrength_189 : List RI := [(.iconst 0, 1, 0, 0, []), (.ireturn, 1, 1, 0, [])]
def Bstrength : RB := [(0, Bstrength_0), (164, Bstrength_164), (166, Bstrength_166), (168, Bstrength_168), (170, Bstrength_170), (172, Bstrength_172), (174, Bstrength_174), (177, Bstrength_177), (180, Bstrength_180), (183, Bstrength_183), (186, Bstrength_186), (189, Bstrength_189)]
set_option maxRecDepth 100000 in
theorem swstrength_1 : decode cX12_strength 1 = .ok (.lookupswitch 188 #[(37, 185), (38, 171), (42, 185), (43, 182), (45, 182), (47, 185), (60, 176), (62, 176), (94, 169), (124, 167), (300, 173), (301, 173), (302, 176), (303, 176), (304, 179), (305, 179), (306, 179), (307, 165), (308, 163)], 163) := by sorry
set_option maxRecDepth 100000 in
theorem okBstrength : rokM cX12_strength 2 (some .int) Bstrength = true := by sorry
def BisType_0 : List RI := [(.aload_n 0, 1, 0, 0, []), (.getfield 13, 3, 3, 3, []), (.iload_n 1, 1, 0, 1, []), (.iaload, 1, 0, 0, []), (.iconst 4, 1, 0, 0, []), (.if_icmp .ne 17, 3, 0, 24, [])]
def BisType_10 : List RI := [(.aload_n 0, 1, 0, 0, []), (.getfield 22, 3, 3, 6, []), (.iload_n 1, 1, 0, 1, []), (.iaload, 1, 0, 0, []), (.iconst 4, 1, 0, 0, []), (.if_icmp .gt 7, 3, 0, 24, [])]
def BisType_20 : List RI := [(.iconst 1, 1, 0, 0, []), (.goto 4, 3, 0, 25, [])]
def BisType_24 : List RI := [(.iconst 0, 1, 0, 0, [])]
def BisType_25 : List RI := [(.ireturn, 1, 2, 0, [])]
def BisType : RB := [(0, BisType_0), (10, BisType_10), (20, BisType_20), (24, BisType_24), (25, BisType_25)]
set_option maxRecDepth 100000 in
theorem okBisType : rokM cX12_isType 2 (some .boolean) BisType = true := by sorry
def BisSetAt_0 : List RI := [(.aload_n 0, 1, 0, 0, []), (.getfield 13, 3, 3, 3, []), (.iload_n 1, 1, 0, 1, []), (.iaload, 1, 0, 0, []), (.iconst 5, 1, 0, 0, []), (.if_icmp .ne 30, 3, 0, 37, [])]
def BisSetAt_10 : List RI := [(.aload_n 0, 1, 0, 0, []), (.getfield 22, 3, 3, 6, []), (.iload_n 1, 1, 0, 1, []), (.iaload, 1, 0, 0, []), (.bipush 61, 2, 0, 0, []), (.if_icmp .eq 15, 3, 0, 33, [])]
def BisSetAt_21 : List RI := [(.aload_n 0, 1, 0, 0, []), (.getfield 22, 3, 3, 6, []), (.iload_n 1, 1, 0, 1, []), (.iaload, 1, 0, 0, []), (.sipush 400, 3, 0, 0, []), (.if_icmp .le 7, 3, 0, 37, [])]
def BisSetAt_33 : List RI := [(.iconst 1, 1, 0, 0, []), (.goto 4, 3, 0, 38, [])]
def BisSetAt_37 : List RI := [(.iconst 0, 1, 0, 0, [])]
def BisSetAt_38 : List RI := [(.ireturn, 1, 2, 0, [])]
def BisSetAt : RB := [(0, BisSetAt_0), (10, BisSetAt_10), (21, BisSetAt_21), (33, BisSetAt_33), (37, BisSetAt_37), (38, BisSetAt_38)]
set_option maxRecDepth 100000 in
theorem okBisSetAt : rokM cX12_isSetAt 2 (some .boolean) BisSetAt = true := by sorry
def Bpush_0 : List RI := [(.aload_n 0, 1, 0, 0, []), (.getfield 60, 3, 3, 25, []), (.aload_n 0, 1, 0, 0, []), (.getfield 440, 3, 0, 29, []), (.iload_n 1, 1, 0, 1, []), (.iastore, 1, 0, 0, []), (.aload_n 0, 1, 0, 0, []), (.getfield 63, 3, 3, 26, []), (.aload_n 0, 1, 0, 0, []), (.getfield 440, 3, 0, 29, []), (.iload_n 2, 1, 0, 2, []), (.iastore, 1, 0, 0, []), (.aload_n 0, 1, 0, 0, []), (.getfield 66, 3, 3, 27, []), (.aload_n 0, 1, 0, 0, []), (.getfield 440, 3, 0, 29, []), (.iload_n 3, 1, 0, 3, []), (.iastore, 1, 0, 0, []), (.aload_n 0, 1, 0, 0, []), (.getfield 69, 3, 3, 28, []), (.aload_n 0, 1, 0, 0, []), (.getfield 440, 3, 0, 29, []), (.iconst 0, 1, 0, 0, []), (.iastore, 1, 0, 0, []), (.aload_n 0, 1, 0, 0, []), (.dup, 1, 0, 0, []), (.getfield 440, 3, 0, 29, []), (.iconst 1, 1, 0, 0, []), (.iadd, 1, 0, 0, []), (.putfield 440, 3, 0, 29, []), (.iconst 1, 1, 0, 0, []), (.ireturn, 1, 2, 0, [])]
def Bpush : RB := [(0, Bpush_0)]
set_option maxRecDepth 100000 in
theorem okBpush : rokM cX12_push 4 (some .boolean) Bpush = true := by sorry
def Bwhole_0 : List RI := [(.aload_n 0, 1, 0, 0, []), (.getfield 72, 3, 3, 30, []), (.aload_n 0, 1, 0, 0, []), (.getfield 443, 3, 0, 31, []), (.iload_n 1, 1, 0, 1, []), (.iastore, 1, 0, 0, []), (.aload_n 0, 1, 0, 0, []), (.dup, 1, 0, 0, []), (.getfield 443, 3, 0, 31, []), (.iconst 1, 1, 0, 0, []), (.iadd, 1, 0, 0, []), (.putfield 443, 3, 0, 31, []), (.return_, 1, 0, 0, [])]
def Bwhole : RB := [(0, Bwhole_0)]
set_option maxRecDepth 100000 in
theorem okBwhole : rokM cX12_whole 2 none Bwhole = true := by sorry
def Bexpression_0 : List RI := [(.aload_n 0, 1, 0, 0, []), (.iconst 0, 1, 0, 0, []), (.putfield 440, 3, 0, 29, []), (.aload_n 0, 1, 0, 0, []), (.iconst 0, 1, 0, 0, []), (.putfield 443, 3, 0, 31, []), (.iconst 1, 1, 0, 0, []), (.istore_n 1, 1, 0, 1, []), (.iconst 1, 1, 0, 0, []), (.istore_n 2, 1, 0, 2, [])]
def Bexpression_14 : List RI := [(.iload_n 2, 1, 0, 2, []), (.ifCond .eq 50, 3, 0, 65, [])]
def Bexpression_18 : List RI := [(.aload_n 0, 1, 0, 0, []), (.iload_n 1, 1, 0, 1, []), (.invokevirtual 446, 3, 1, 29, []), (.ifCond .ne 5, 3, 0, 28, [])]
def Bexpression_26 : List RI := [(.iconst 0, 1, 0, 0, []), (.ireturn, 1, 2, 0, [])]
def Bexpression_28 : List RI := [(.aload_n 0, 1, 0, 0, []), (.getfield 450, 3, 1, 34, []), (.ifCond .eq 11, 3, 0, 43, [])]
def Bexpression_35 : List RI := [(.aload_n 0, 1, 0, 0, []), (.getfield 454, 3, 1, 35, []), (.istore_n 1, 1, 0, 1, []), (.goto (-26), 3, 0, 14, [])]
def Bexpression_43 : List RI := [(.aload_n 0, 1, 0, 0, []), (.invokevirtual 457, 3, 0, 34, []), (.ifCond .ne 5, 3, 0, 52, [])]
def Bexpression_50 : List RI := [(.iconst 0, 1, 0, 0, []), (.ireturn, 1, 2, 0, [])]
def Bexpression_52 : List RI := [(.aload_n 0, 1, 0, 0, []), (.getfield 450, 3, 1, 34, []), (.istore_n 2, 1, 0, 2, []), (.aload_n 0, 1, 0, 0, []), (.getfield 454, 3, 1, 35, []), (.istore_n 1, 1, 0, 1, []), (.goto (-48), 3, 0, 14, [])]
def Bexpression_65 : List RI := [(.iconst 1, 1, 0, 0, []), (.ireturn, 1, 2, 0, [])]
def Bexpression : RB := [(0, Bexpression_0), (14, Bexpression_14), (18, Bexpression_18), (26, Bexpression_26), (28, Bexpression_28), (35, Bexpression_35), (43, Bexpression_43), (50, Bexpression_50), (52, Bexpression_52), (65, Bexpression_65)]
set_option maxRecDepth 100000 in
theorem okBexpression : rokM cX12_expression 3 (some .boolean) Bexpression = true := by sorry
def Bwait_0 : List RI := [(.aload_n 0, 1, 0, 0, []), (.iconst 1, 1, 0, 0, []), (.putfield 450, 3, 1, 34, []), (.aload_n 0, 1, 0, 0, []), (.iload_n 1, 1, 0, 1, []), (.putfield 454, 3, 1, 35, []), (.iconst 1, 1, 0, 0, []), (.ireturn, 1, 2, 0, [])]
def Bwait : RB := [(0, Bwait_0)]
set_option maxRecDepth 100000 in
theorem okBwait : rokM cX12_wait 2 (some .boolean) Bwait = true := by sorry
def Boperand_0 : List RI := [(.aload_n 0, 1, 0, 0, []), (.getfield 413, 3, 0, 14, []), (.istore_n 2, 1, 0, 2, []), (.aload_n 0, 1, 0, 0, []), (.iconst 0, 1, 0, 0, []), (.putfield 450, 3, 1, 34, []), (.aload_n 0, 1, 0, 0, []), (.getfield 13, 3, 3, 3, []), (.iload_n 2, 1, 0, 2, []), (.iaload, 1, 0, 0, []), (.istore_n 3, 1, 0, 3, []), (.iload_n 3, 1, 0, 3, []), (.iconst 1, 1, 0, 0, []), (.if_icmp .ne 9, 3, 0, 28, [])]
def Boperand_22 : List RI := [(.aload_n 0, 1, 0, 0, []), (.iload_n 1, 1, 0, 1, []), (.invokevirtual 460, 3, 1, 30, []), (.ireturn, 1, 2, 0, [])]
def Boperand_28 : List RI := [(.iload_n 3, 1, 0, 3, []), (.iconst 2, 1, 0, 0, []), (.if_icmp .eq 26, 3, 0, 56, [])]
def Boperand_33 : List RI := [(.iload_n 3, 1, 0, 3, []), (.iconst 3, 1, 0, 0, []), (.if_icmp .eq 21, 3, 0, 56, [])]
def Boperand_38 : List RI := [(.aload_n 0, 1, 0, 0, []), (.bipush 22, 2, 0, 0, []), (.invokevirtual 463, 3, 1, 15, []), (.ifCond .ne 12, 3, 0, 56, [])]
def Boperand_47 : List RI := [(.aload_n 0, 1, 0, 0, []), (.bipush 23, 2, 0, 0, []), (.invokevirtual 463, 3, 1, 15, []), (.ifCond .eq 140, 3, 0, 193, [])]
def Boperand_56 : List RI := [(.aload_n 0, 1, 0, 0, []), (.invokevirtual 423, 3, 0, 17, []), (.ifCond .ne 5, 3, 0, 65, [])]
def Boperand_63 : List RI := [(.iconst 0, 1, 0, 0, []), (.ireturn, 1, 2, 0, [])]
def Boperand_65 : List RI := [(.iload_n 3, 1, 0, 3, []), (.iconst 2, 1, 0, 0, []), (.if_icmp .ne 20, 3, 0, 87, [])]
def Boperand_70 : List RI := [(.aload_n 0, 1, 0, 0, []), (.getfield 35, 3, 4, 10, []), (.iload_n 2, 1, 0, 2, []), (.baload, 1, 0, 0, []), (.ifCond .eq 7, 3, 0, 83, [])]
def Boperand_79 : List RI := [(.iconst 4, 1, 0, 0, []), (.goto 17, 3, 0, 97, [])]
def Boperand_83 : List RI := [(.iconst 3, 1, 0, 0, []), (.goto 13, 3, 0, 97, [])]
def Boperand_87 : List RI := [(.iload_n 3, 1, 0, 3, []), (.iconst 3, 1, 0, 0, []), (.if_icmp .ne 7, 3, 0, 96, [])]
def Boperand_92 : List RI := [(.iconst 2, 1, 0, 0, []), (.goto 4, 3, 0, 97, [])]
def Boperand_96 : List RI := [(.iconst 0, 1, 0, 0, [])]
def Boperand_97 : List RI := [(.istore 4, 2, 0, 0, []), (.aload_n 0, 1, 0, 0, []), (.aload_n 0, 1, 0, 0, []), (.iconst 1, 1, 0, 0, []), (.iload 4, 2, 0, 0, []), (.iload_n 2, 1, 0, 2, []), (.iload_n 2, 1, 0, 2, []), (.iload_n 2, 1, 0, 2, []), (.invokevirtual 466, 3, 5, 21, []), (.putfield 470, 3, 0, 33, []), (.aload_n 0, 1, 0, 0, []), (.getfield 48, 3, 3, 21, []), (.aload_n 0, 1, 0, 0, []), (.getfield 470, 3, 0, 33, []), (.aload_n 0, 1, 0, 0, []), (.getfield 440, 3, 0, 29, []), (.ifCond .le 54, 3, 0, 179, [])]
def Boperand_128 : List RI := [(.aload_n 0, 1, 0, 0, []), (.getfield 60, 3, 3, 25, []), (.aload_n 0, 1, 0, 0, []), (.getfield 440, 3, 0, 29, []), (.iconst 1, 1, 0, 0, []), (.isub, 1, 0, 0, []), (.iaload, 1, 0, 0, []), (.ifCond .ne 40, 3, 0, 179, [])]
def Boperand_142 : List RI := [(.aload_n 0, 1, 0, 0, []), (.getfield 63, 3, 3, 26, []), (.aload_n 0, 1, 0, 0, []), (.getfield 440, 3, 0, 29, []), (.iconst 1, 1, 0, 0, []), (.isub, 1, 0, 0, []), (.iaload, 1, 0, 0, []), (.bipush 45, 2, 0, 0, []), (.if_icmp .ne 24, 3, 0, 179, [])]
def Boperand_158 : List RI := [(.aload_n 0, 1, 0, 0, []), (.getfield 66, 3, 3, 27, []), (.aload_n 0, 1, 0, 0, []), (.getfield 440, 3, 0, 29, []), (.iconst 1, 1, 0, 0, []), (.isub, 1, 0, 0, []), (.iaload, 1, 0, 0, []), (.iload_n 2, 1, 0, 2, []), (.iconst 1, 1, 0, 0, []), (.isub, 1, 0, 0, []), (.if_icmp .ne 7, 3, 0, 179, [])]
def Boperand_175 : List RI := [(.iconst 1, 1, 0, 0, []), (.goto 4, 3, 0, 180, [])]
def Boperand_179 : List RI := [(.iconst 0, 1, 0, 0, [])]
def Boperand_180 : List RI := [(.iastore, 1, 0, 0, []), (.aload_n 0, 1, 0, 0, []), (.iload_n 2, 1, 0, 2, []), (.putfield 473, 3, 0, 32, []), (.aload_n 0, 1, 0, 0, []), (.iload_n 2, 1, 0, 2, []), (.invokevirtual 476, 3, 1, 26, []), (.iconst 1, 1, 0, 0, []), (.ireturn, 1, 2, 0, [])]
def Boperand_193 : List RI := [(.aload_n 0, 1, 0, 0, []), (.bipush 43, 2, 0, 0, []), (.invokevirtual 420, 3, 1, 14, []), (.ifCond .ne 30, 3, 0, 229, [])]
def Boperand_202 : List RI := [(.aload_n 0, 1, 0, 0, []), (.bipush 45, 2, 0, 0, []), (.invokevirtual 420, 3, 1, 14, []), (.ifCond .ne 21, 3, 0, 229, [])]
def Boperand_211 : List RI := [(.aload_n 0, 1, 0, 0, []), (.bipush 33, 2, 0, 0, []), (.invokevirtual 420, 3, 1, 14, []), (.ifCond .ne 12, 3, 0, 229, [])]
def Boperand_220 : List RI := [(.aload_n 0, 1, 0, 0, []), (.bipush 126, 2, 0, 0, []), (.invokevirtual 420, 3, 1, 14, []), (.ifCond .eq 42, 3, 0, 268, [])]
def Boperand_229 : List RI := [(.aload_n 0, 1, 0, 0, []), (.getfield 22, 3, 3, 6, []), (.iload_n 2, 1, 0, 2, []), (.iaload, 1, 0, 0, []), (.istore 4, 2, 0, 0, []), (.aload_n 0, 1, 0, 0, []), (.invokevirtual 423, 3, 0, 17, []), (.ifCond .eq 10, 3, 0, 251, [])]
def Boperand_244 : List RI := [(.aload_n 0, 1, 0, 0, []), (.invokevirtual 479, 3, 0, 19, []), (.ifCond .ne 5, 3, 0, 253, [])]
def Boperand_251 : List RI := [(.iconst 0, 1, 0, 0, []), (.ireturn, 1, 2, 0, [])]
def Boperand_253 : List RI := [(.aload_n 0, 1, 0, 0, []), (.iconst 0, 1, 0, 0, []), (.iload 4, 2, 0, 0, []), (.iload_n 2, 1, 0, 2, []), (.invokevirtual 482, 3, 3, 25, []), (.pop, 1, 0, 0, []), (.aload_n 0, 1, 0, 0, []), (.iconst 0, 1, 0, 0, []), (.invokevirtual 486, 3, 1, 28, []), (.ireturn, 1, 2, 0, [])]
def Boperand_268 : List RI := [(.aload_n 0, 1, 0, 0, []), (.sipush 309, 3, 0, 0, []), (.invokevirtual 420, 3, 1, 14, []), (.ifCond .ne 13, 3, 0, 288, [])]
def Boperand_278 : List RI := [(.aload_n 0, 1, 0, 0, []), (.sipush 310, 3, 0, 0, []), (.invokevirtual 420, 3, 1, 14, []), (.ifCond .eq 82, 3, 0, 367, [])]
def Boperand_288 : List RI := [(.aload_n 0, 1, 0, 0, []), (.getfield 22, 3, 3, 6, []), (.iload_n 2, 1, 0, 2, []), (.iaload, 1, 0, 0, []), (.istore 4, 2, 0, 0, []), (.aload_n 0, 1, 0, 0, []), (.invokevirtual 423, 3, 0, 17, []), (.ifCond .ne 5, 3, 0, 305, [])]
def Boperand_303 : List RI := [(.iconst 0, 1, 0, 0, []), (.ireturn, 1, 2, 0, [])]
def Boperand_305 : List RI := [(.aload_n 0, 1, 0, 0, []), (.getfield 13, 3, 3, 3, []), (.aload_n 0, 1, 0, 0, []), (.getfield 413, 3, 0, 14, []), (.iaload, 1, 0, 0, []), (.iconst 1, 1, 0, 0, []), (.if_icmp .eq 8, 3, 0, 323, [])]
def Boperand_318 : List RI := [(.aload_n 0, 1, 0, 0, []), (.invokevirtual 427, 3, 0, 13, []), (.ireturn, 1, 2, 0, [])]
def Boperand_323 : List RI := [(.aload_n 0, 1, 0, 0, []), (.getfield 413, 3, 0, 14, []), (.istore 5, 2, 0, 0, []), (.aload_n 0, 1, 0, 0, []), (.invokevirtual 423, 3, 0, 17, []), (.ifCond .ne 5, 3, 0, 338, [])]
def Boperand_336 : List RI := [(.iconst 0, 1, 0, 0, []), (.ireturn, 1, 2, 0, [])]
def Boperand_338 : List RI := [(.aload_n 0, 1, 0, 0, []), (.aload_n 0, 1, 0, 0, []), (.iconst 4, 1, 0, 0, []), (.iload 4, 2, 0, 0, []), (.iload 5, 2, 0, 0, []), (.iload_n 2, 1, 0, 2, []), (.iload 5, 2, 0, 0, []), (.invokevirtual 466, 3, 5, 21, []), (.putfield 470, 3, 0, 33, []), (.aload_n 0, 1, 0, 0, []), (.iload 5, 2, 0, 0, []), (.putfield 473, 3, 0, 32, []), (.aload_n 0, 1, 0, 0, []), (.iload_n 2, 1, 0, 2, []), (.invokevirtual 476, 3, 1, 26, []), (.iconst 1, 1, 0, 0, []), (.ireturn, 1, 2, 0, [])]
def Boperand_367 : List RI := [(.aload_n 0, 1, 0, 0, []), (.bipush 40, 2, 0, 0, []), (.invokevirtual 420, 3, 1, 14, []), (.ifCond .ne 8, 3, 0, 381, [])]
def Boperand_376 : List RI := [(.aload_n 0, 1, 0, 0, []), (.invokevirtual 427, 3, 0, 13, []), (.ireturn, 1, 2, 0, [])]
def Boperand_381 : List RI := [(.aload_n 0, 1, 0, 0, []), (.invokevirtual 423, 3, 0, 17, []), (.ifCond .ne 5, 3, 0, 390, [])]
def Boperand_388 : List RI := [(.iconst 0, 1, 0, 0, []), (.ireturn, 1, 2, 0, [])]
def Boperand_390 : List RI := [(.aload_n 0, 1, 0, 0, []), (.aload_n 0, 1, 0, 0, []), (.getfield 413, 3, 0, 14, []), (.invokevirtual 489, 3, 1, 23, []), (.ifCond .eq 54, 3, 0, 452, [])]
def Boperand_401 : List RI := [(.aload_n 0, 1, 0, 0, []), (.getfield 22, 3, 3, 6, []), (.aload_n 0, 1, 0, 0, []), (.getfield 413, 3, 0, 14, []), (.iaload, 1, 0, 0, []), (.istore 4, 2, 0, 0, []), (.aload_n 0, 1, 0, 0, []), (.invokevirtual 423, 3, 0, 17, []), (.ifCond .eq 19, 3, 0, 435, [])]
def Boperand_419 : List RI := [(.aload_n 0, 1, 0, 0, []), (.bipush 41, 2, 0, 0, []), (.invokevirtual 492, 3, 1, 18, []), (.ifCond .eq 10, 3, 0, 435, [])]
def Boperand_428 : List RI := [(.aload_n 0, 1, 0, 0, []), (.invokevirtual 479, 3, 0, 19, []), (.ifCond .ne 5, 3, 0, 437, [])]
def Boperand_435 : List RI := [(.iconst 0, 1, 0, 0, []), (.ireturn, 1, 2, 0, [])]
def Boperand_437 : List RI := [(.aload_n 0, 1, 0, 0, []), (.iconst 1, 1, 0, 0, []), (.iload 4, 2, 0, 0, []), (.iload_n 2, 1, 0, 2, []), (.invokevirtual 482, 3, 3, 25, []), (.pop, 1, 0, 0, []), (.aload_n 0, 1, 0, 0, []), (.iconst 0, 1, 0, 0, []), (.invokevirtual 486, 3, 1, 28, []), (.ireturn, 1, 2, 0, [])]
def Boperand_452 : List RI := [(.aload_n 0, 1, 0, 0, []), (.invokevirtual 479, 3, 0, 19, []), (.ifCond .ne 5, 3, 0, 461, [])]
def Boperand_459 : List RI := [(.iconst 0, 1, 0, 0, []), (.ireturn, 1, 2, 0, [])]
def Boperand_461 : List RI := [(.aload_n 0, 1, 0, 0, []), (.iconst 3, 1, 0, 0, []), (.iconst 0, 1, 0, 0, []), (.iload_n 2, 1, 0, 2, []), (.invokevirtual 482, 3, 3, 25, []), (.pop, 1, 0, 0, []), (.aload_n 0, 1, 0, 0, []), (.iconst 1, 1, 0, 0, []), (.invokevirtual 486, 3, 1, 28, []), (.ireturn, 1, 2, 0, [])]
def Boperand : RB := [(0, Boperand_0), (22, Boperand_22), (28, Boperand_28), (33, Boperand_33), (38, Boperand_38), (47, Boperand_47), (56, Boperand_56), (63, Boperand_63), (65, Boperand_65), (70, Boperand_70), (79, Boperand_79), (83, Boperand_83), (87, Boperand_87), (92, Boperand_92), (96, Boperand_96), (97, Boperand_97), (128, Boperand_128), (142, Boperand_142), (158, Boperand_158), (175, Boperand_175), (179, Boperand_179), (180, Boperand_180), (193, Boperand_193), (202, Boperand_202), (211, Boperand_211), (220, Boperand_220), (229, Boperand_229), (244, Boperand_244), (251, Boperand_251), (253, Boperand_253), (268, Boperand_268), (278, Boperand_278), (288, Boperand_288), (303, Boperand_303), (305, Boperand_305), (318, Boperand_318), (323, Boperand_323), (336, Boperand_336), (338, Boperand_338), (367, Boperand_367), (376, Boperand_376), (381, Boperand_381), (388, Boperand_388), (390, Boperand_390), (401, Boperand_401), (419, Boperand_419), (428, Boperand_428), (435, Boperand_435), (437, Boperand_437), (452, Boperand_452), (459, Boperand_459), (461, Boperand_461)]
set_option maxRecDepth 100000 in
theorem okBoperand : rokM cX12_operand 6 (some .boolean) Boperand = true := by sorry
def Bnamed_0 : List RI := [(.aload_n 0, 1, 0, 0, []), (.getfield 413, 3, 0, 14, []), (.istore_n 2, 1, 0, 2, []), (.aload_n 0, 1, 0, 0, []), (.invokevirtual 423, 3, 0, 17, []), (.ifCond .ne 5, 3, 0, 14, [])]
def Bnamed_12 : List RI := [(.iconst 0, 1, 0, 0, []), (.ireturn, 1, 2, 0, [])]
def Bnamed_14 : List RI := [(.iload_n 1, 1, 0, 1, []), (.ifCond .eq 73, 3, 0, 88, [])]
def Bnamed_18 : List RI := [(.aload_n 0, 1, 0, 0, []), (.aload_n 0, 1, 0, 0, []), (.getfield 413, 3, 0, 14, []), (.invokevirtual 495, 3, 1, 24, []), (.ifCond .eq 62, 3, 0, 88, [])]
def Bnamed_29 : List RI := [(.aload_n 0, 1, 0, 0, []), (.getfield 22, 3, 3, 6, []), (.aload_n 0, 1, 0, 0, []), (.getfield 413, 3, 0, 14, []), (.iaload, 1, 0, 0, []), (.istore_n 3, 1, 0, 3, []), (.aload_n 0, 1, 0, 0, []), (.invokevirtual 423, 3, 0, 17, []), (.ifCond .eq 10, 3, 0, 53, [])]
def Bnamed_46 : List RI := [(.aload_n 0, 1, 0, 0, []), (.invokevirtual 479, 3, 0, 19, []), (.ifCond .ne 5, 3, 0, 55, [])]
def Bnamed_53 : List RI := [(.iconst 0, 1, 0, 0, []), (.ireturn, 1, 2, 0, [])]
def Bnamed_55 : List RI := [(.iload_n 3, 1, 0, 3, []), (.bipush 61, 2, 0, 0, []), (.if_icmp .eq 16, 3, 0, 74, [])]
def Bnamed_61 : List RI := [(.aload_n 0, 1, 0, 0, []), (.bipush 16, 2, 0, 0, []), (.iload_n 3, 1, 0, 3, []), (.sipush 400, 3, 0, 0, []), (.isub, 1, 0, 0, []), (.iload_n 2, 1, 0, 2, []), (.invokevirtual 436, 3, 3, 20, []), (.pop, 1, 0, 0, [])]
def Bnamed_74 : List RI := [(.aload_n 0, 1, 0, 0, []), (.iconst 5, 1, 0, 0, []), (.iload_n 3, 1, 0, 3, []), (.iload_n 2, 1, 0, 2, []), (.invokevirtual 482, 3, 3, 25, []), (.pop, 1, 0, 0, []), (.aload_n 0, 1, 0, 0, []), (.iconst 1, 1, 0, 0, []), (.invokevirtual 486, 3, 1, 28, []), (.ireturn, 1, 2, 0, [])]
def Bnamed_88 : List RI := [(.aload_n 0, 1, 0, 0, []), (.bipush 40, 2, 0, 0, []), (.invokevirtual 420, 3, 1, 14, []), (.ifCond .eq 47, 3, 0, 141, [])]
def Bnamed_97 : List RI := [(.aload_n 0, 1, 0, 0, []), (.invokevirtual 423, 3, 0, 17, []), (.ifCond .eq 10, 3, 0, 111, [])]
def Bnamed_104 : List RI := [(.aload_n 0, 1, 0, 0, []), (.invokevirtual 479, 3, 0, 19, []), (.ifCond .ne 5, 3, 0, 113, [])]
def Bnamed_111 : List RI := [(.iconst 0, 1, 0, 0, []), (.ireturn, 1, 2, 0, [])]
def Bnamed_113 : List RI := [(.aload_n 0, 1, 0, 0, []), (.iconst 4, 1, 0, 0, []), (.iconst 0, 1, 0, 0, []), (.iload_n 2, 1, 0, 2, []), (.invokevirtual 482, 3, 3, 25, []), (.pop, 1, 0, 0, []), (.aload_n 0, 1, 0, 0, []), (.bipush 41, 2, 0, 0, []), (.invokevirtual 420, 3, 1, 14, []), (.ifCond .ne 9, 3, 0, 136, [])]
def Bnamed_130 : List RI := [(.aload_n 0, 1, 0, 0, []), (.iconst 1, 1, 0, 0, []), (.invokevirtual 486, 3, 1, 28, []), (.ireturn, 1, 2, 0, [])]
def Bnamed_136 : List RI := [(.aload_n 0, 1, 0, 0, []), (.invokevirtual 498, 3, 0, 31, []), (.ireturn, 1, 2, 0, [])]
def Bnamed_141 : List RI := [(.aload_n 0, 1, 0, 0, []), (.sipush 309, 3, 0, 0, []), (.invokevirtual 420, 3, 1, 14, []), (.ifCond .ne 13, 3, 0, 161, [])]
def Bnamed_151 : List RI := [(.aload_n 0, 1, 0, 0, []), (.sipush 310, 3, 0, 0, []), (.invokevirtual 420, 3, 1, 14, []), (.ifCond .eq 55, 3, 0, 213, [])]
def Bnamed_161 : List RI := [(.aload_n 0, 1, 0, 0, []), (.getfield 22, 3, 3, 6, []), (.aload_n 0, 1, 0, 0, []), (.getfield 413, 3, 0, 14, []), (.iaload, 1, 0, 0, []), (.istore_n 3, 1, 0, 3, []), (.aload_n 0, 1, 0, 0, []), (.getfield 413, 3, 0, 14, []), (.istore 4, 2, 0, 0, []), (.aload_n 0, 1, 0, 0, []), (.invokevirtual 423, 3, 0, 17, []), (.ifCond .ne 5, 3, 0, 186, [])]
def Bnamed_184 : List RI := [(.iconst 0, 1, 0, 0, []), (.ireturn, 1, 2, 0, [])]
def Bnamed_186 : List RI := [(.aload_n 0, 1, 0, 0, []), (.aload_n 0, 1, 0, 0, []), (.iconst 3, 1, 0, 0, []), (.iload_n 3, 1, 0, 3, []), (.iload_n 2, 1, 0, 2, []), (.iload_n 2, 1, 0, 2, []), (.iload 4, 2, 0, 0, []), (.invokevirtual 466, 3, 5, 21, []), (.putfield 470, 3, 0, 33, []), (.aload_n 0, 1, 0, 0, []), (.iload 4, 2, 0, 0, []), (.putfield 473, 3, 0, 32, []), (.aload_n 0, 1, 0, 0, []), (.iload_n 2, 1, 0, 2, []), (.invokevirtual 476, 3, 1, 26, []), (.iconst 1, 1, 0, 0, []), (.ireturn, 1, 2, 0, [])]
def Bnamed_213 : List RI := [(.aload_n 0, 1, 0, 0, []), (.aload_n 0, 1, 0, 0, []), (.iconst 2, 1, 0, 0, []), (.iconst 0, 1, 0, 0, []), (.iload_n 2, 1, 0, 2, []), (.iload_n 2, 1, 0, 2, []), (.iload_n 2, 1, 0, 2, []), (.invokevirtual 466, 3, 5, 21, []), (.putfield 470, 3, 0, 33, []), (.aload_n 0, 1, 0, 0, []), (.iload_n 2, 1, 0, 2, []), (.putfield 473, 3, 0, 32, []), (.aload_n 0, 1, 0, 0, []), (.iload_n 2, 1, 0, 2, []), (.invokevirtual 476, 3, 1, 26, []), (.iconst 1, 1, 0, 0, []), (.ireturn, 1, 2, 0, [])]
def Bnamed : RB := [(0, Bnamed_0), (12, Bnamed_12), (14, Bnamed_14), (18, Bnamed_18), (29, Bnamed_29), (46, Bnamed_46), (53, Bnamed_53), (55, Bnamed_55), (61, Bnamed_61), (74, Bnamed_74), (88, Bnamed_88), (97, Bnamed_97), (104, Bnamed_104), (111, Bnamed_111), (113, Bnamed_113), (130, Bnamed_130), (136, Bnamed_136), (141, Bnamed_141), (151, Bnamed_151), (161, Bnamed_161), (184, Bnamed_184), (186, Bnamed_186), (213, Bnamed_213)]
set_option maxRecDepth 100000 in
theorem okBnamed : rokM cX12_named 5 (some .boolean) Bnamed = true := by sorry
def BcloseCall_0 : List RI := [(.aload_n 0, 1, 0, 0, []), (.dup, 1, 0, 0, []), (.getfield 440, 3, 0, 29, []), (.iconst 1, 1, 0, 0, []), (.isub, 1, 0, 0, []), (.putfield 440, 3, 0, 29, []), (.aload_n 0, 1, 0, 0, []), (.getfield 66, 3, 3, 27, []), (.aload_n 0, 1, 0, 0, []), (.getfield 440, 3, 0, 29, []), (.iaload, 1, 0, 0, []), (.istore_n 1, 1, 0, 1, []), (.aload_n 0, 1, 0, 0, []), (.getfield 413, 3, 0, 14, []), (.istore_n 2, 1, 0, 2, []), (.aload_n 0, 1, 0, 0, []), (.invokevirtual 423, 3, 0, 17, []), (.ifCond .ne 5, 3, 0, 34, [])]
def BcloseCall_32 : List RI := [(.iconst 0, 1, 0, 0, []), (.ireturn, 1, 2, 0, [])]
def BcloseCall_34 : List RI := [(.aload_n 0, 1, 0, 0, []), (.dup, 1, 0, 0, []), (.getfield 430, 3, 0, 17, []), (.iconst 1, 1, 0, 0, []), (.isub, 1, 0, 0, []), (.putfield 430, 3, 0, 17, []), (.aload_n 0, 1, 0, 0, []), (.dup, 1, 0, 0, []), (.getfield 443, 3, 0, 31, []), (.aload_n 0, 1, 0, 0, []), (.getfield 69, 3, 3, 28, []), (.aload_n 0, 1, 0, 0, []), (.getfield 440, 3, 0, 29, []), (.iaload, 1, 0, 0, []), (.isub, 1, 0, 0, []), (.putfield 443, 3, 0, 31, []), (.aload_n 0, 1, 0, 0, []), (.aload_n 0, 1, 0, 0, []), (.bipush 18, 2, 0, 0, []), (.aload_n 0, 1, 0, 0, []), (.getfield 69, 3, 3, 28, []), (.aload_n 0, 1, 0, 0, []), (.getfield 440, 3, 0, 29, []), (.iaload, 1, 0, 0, []), (.iload_n 1, 1, 0, 1, []), (.iload_n 1, 1, 0, 1, []), (.iload_n 2, 1, 0, 2, []), (.invokevirtual 466, 3, 5, 21, []), (.putfield 470, 3, 0, 33, []), (.aload_n 0, 1, 0, 0, []), (.iload_n 2, 1, 0, 2, []), (.putfield 473, 3, 0, 32, []), (.aload_n 0, 1, 0, 0, []), (.iload_n 1, 1, 0, 1, []), (.invokevirtual 476, 3, 1, 26, []), (.aload_n 0, 1, 0, 0, []), (.iconst 0, 1, 0, 0, []), (.putfield 450, 3, 1, 34, []), (.iconst 1, 1, 0, 0, []), (.ireturn, 1, 2, 0, [])]
def BcloseCall : RB := [(0, BcloseCall_0), (32, BcloseCall_32), (34, BcloseCall_34)]
set_option maxRecDepth 100000 in
theorem okBcloseCall : rokM cX12_closeCall 3 (some .boolean) BcloseCall = true := by sorry
def Breduce_0 : List RI := [(.aload_n 0, 1, 0, 0, []), (.getfield 440, 3, 0, 29, []), (.ifCond .le 7, 3, 0, 11, [])]
def Breduce_7 : List RI := [(.iconst 1, 1, 0, 0, []), (.goto 4, 3, 0, 12, [])]
def Breduce_11 : List RI := [(.iconst 0, 1, 0, 0, [])]
def Breduce_12 : List RI := [(.istore_n 2, 1, 0, 2, [])]
def Breduce_13 : List RI := [(.iload_n 2, 1, 0, 2, []), (.ifCond .eq 255, 3, 0, 269, [])]
def Breduce_17 : List RI := [(.aload_n 0, 1, 0, 0, []), (.getfield 60, 3, 3, 25, []), (.aload_n 0, 1, 0, 0, []), (.getfield 440, 3, 0, 29, []), (.iconst 1, 1, 0, 0, []), (.isub, 1, 0, 0, []), (.iaload, 1, 0, 0, []), (.istore_n 3, 1, 0, 3, []), (.iload_n 3, 1, 0, 3, []), (.ifCond .eq 32, 3, 0, 62, [])]
def Breduce_33 : List RI := [(.iload_n 3, 1, 0, 3, []), (.iconst 1, 1, 0, 0, []), (.if_icmp .eq 27, 3, 0, 62, [])]
def Breduce_38 : List RI := [(.iload_n 3, 1, 0, 3, []), (.iconst 2, 1, 0, 0, []), (.if_icmp .ne 26, 3, 0, 66, [])]
def Breduce_43 : List RI := [(.aload_n 0, 1, 0, 0, []), (.aload_n 0, 1, 0, 0, []), (.getfield 63, 3, 3, 26, []), (.aload_n 0, 1, 0, 0, []), (.getfield 440, 3, 0, 29, []), (.iconst 1, 1, 0, 0, []), (.isub, 1, 0, 0, []), (.iaload, 1, 0, 0, []), (.invokevirtual 501, 3, 1, 22, []), (.iload_n 1, 1, 0, 1, []), (.if_icmp .lt 7, 3, 0, 66, [])]
def Breduce_62 : List RI := [(.iconst 1, 1, 0, 0, []), (.goto 4, 3, 0, 67, [])]
def Breduce_66 : List RI := [(.iconst 0, 1, 0, 0, [])]
def Breduce_67 : List RI := [(.istore 4, 2, 0, 0, []), (.iload 4, 2, 0, 0, []), (.ifCond .ne 4, 3, 0, 75, [])]
def Breduce_74 : List RI := [(.return_, 1, 0, 0, [])]
def Breduce_75 : List RI := [(.aload_n 0, 1, 0, 0, []), (.dup, 1, 0, 0, []), (.getfield 440, 3, 0, 29, []), (.iconst 1, 1, 0, 0, []), (.isub, 1, 0, 0, []), (.putfield 440, 3, 0, 29, []), (.aload_n 0, 1, 0, 0, []), (.getfield 63, 3, 3, 26, []), (.aload_n 0, 1, 0, 0, []), (.getfield 440, 3, 0, 29, []), (.iaload, 1, 0, 0, []), (.istore 5, 2, 0, 0, []), (.aload_n 0, 1, 0, 0, []), (.getfield 66, 3, 3, 27, []), (.aload_n 0, 1, 0, 0, []), (.getfield 440, 3, 0, 29, []), (.iaload, 1, 0, 0, []), (.istore 6, 2, 0, 0, []), (.iload_n 3, 1, 0, 3, []), (.iconst 2, 1, 0, 0, []), (.if_icmp .ne 93, 3, 0, 202, [])]
def Breduce_112 : List RI := [(.aload_n 0, 1, 0, 0, []), (.dup, 1, 0, 0, []), (.getfield 443, 3, 0, 31, []), (.iconst 1, 1, 0, 0, []), (.isub, 1, 0, 0, []), (.putfield 443, 3, 0, 31, []), (.iload 5, 2, 0, 0, []), (.sipush 307, 3, 0, 0, []), (.if_icmp .ne 8, 3, 0, 135, [])]
def Breduce_130 : List RI := [(.bipush 9, 2, 0, 0, []), (.goto 18, 3, 0, 150, [])]
def Breduce_135 : List RI := [(.iload 5, 2, 0, 0, []), (.sipush 308, 3, 0, 0, []), (.if_icmp .ne 8, 3, 0, 148, [])]
def Breduce_143 : List RI := [(.bipush 11, 2, 0, 0, []), (.goto 5, 3, 0, 150, [])]
def Breduce_148 : List RI := [(.bipush 7, 2, 0, 0, [])]
def Breduce_150 : List RI := [(.istore 7, 2, 0, 0, []), (.aload_n 0, 1, 0, 0, []), (.aload_n 0, 1, 0, 0, []), (.iload 7, 2, 0, 0, []), (.iload 5, 2, 0, 0, []), (.iload 6, 2, 0, 0, []), (.aload_n 0, 1, 0, 0, []), (.getfield 72, 3, 3, 30, []), (.aload_n 0, 1, 0, 0, []), (.getfield 443, 3, 0, 31, []), (.iconst 1, 1, 0, 0, []), (.isub, 1, 0, 0, []), (.iaload, 1, 0, 0, []), (.aload_n 0, 1, 0, 0, []), (.getfield 473, 3, 0, 32, []), (.invokevirtual 466, 3, 5, 21, []), (.putfield 470, 3, 0, 33, []), (.aload_n 0, 1, 0, 0, []), (.getfield 48, 3, 3, 21, []), (.aload_n 0, 1, 0, 0, []), (.getfield 470, 3, 0, 33, []), (.aload_n 0, 1, 0, 0, []), (.getfield 72, 3, 3, 30, []), (.aload_n 0, 1, 0, 0, []), (.getfield 443, 3, 0, 31, []), (.iaload, 1, 0, 0, []), (.iastore, 1, 0, 0, []), (.goto 54, 3, 0, 253, [])]
def Breduce_202 : List RI := [(.aload_n 0, 1, 0, 0, []), (.dup, 1, 0, 0, []), (.getfield 430, 3, 0, 17, []), (.iconst 1, 1, 0, 0, []), (.isub, 1, 0, 0, []), (.putfield 430, 3, 0, 17, []), (.aload_n 0, 1, 0, 0, []), (.getfield 72, 3, 3, 30, []), (.aload_n 0, 1, 0, 0, []), (.getfield 443, 3, 0, 31, []), (.iconst 1, 1, 0, 0, []), (.isub, 1, 0, 0, []), (.iload 6, 2, 0, 0, []), (.iastore, 1, 0, 0, []), (.aload_n 0, 1, 0, 0, []), (.aload_n 0, 1, 0, 0, []), (.iload_n 3, 1, 0, 3, []), (.ifCond .ne 7, 3, 0, 235, [])]
def Breduce_231 : List RI := [(.iconst 5, 1, 0, 0, []), (.goto 5, 3, 0, 237, [])]
def Breduce_235 : List RI := [(.bipush 6, 2, 0, 0, [])]
def Breduce_237 : List RI := [(.iload 5, 2, 0, 0, []), (.iload 6, 2, 0, 0, []), (.iload 6, 2, 0, 0, []), (.aload_n 0, 1, 0, 0, []), (.getfield 473, 3, 0, 32, []), (.invokevirtual 466, 3, 5, 21, []), (.putfield 470, 3, 0, 33, [])]
def Breduce_253 : List RI := [(.aload_n 0, 1, 0, 0, []), (.getfield 440, 3, 0, 29, []), (.ifCond .le 7, 3, 0, 264, [])]
def Breduce_260 : List RI := [(.iconst 1, 1, 0, 0, []), (.goto 4, 3, 0, 265, [])]
def Breduce_264 : List RI := [(.iconst 0, 1, 0, 0, [])]
def Breduce_265 : List RI := [(.istore_n 2, 1, 0, 2, []), (.goto (-253), 3, 0, 13, [])]
def Breduce_269 : List RI := [(.return_, 1, 0, 0, [])]
def Breduce : RB := [(0, Breduce_0), (7, Breduce_7), (11, Breduce_11), (12, Breduce_12), (13, Breduce_13), (17, Breduce_17), (33, Breduce_33), (38, Breduce_38), (43, Breduce_43), (62, Breduce_62), (66, Breduce_66), (67, Breduce_67), (74, Breduce_74), (75, Breduce_75), (112, Breduce_112), (130, Breduce_130), (135, Breduce_135), (143, Breduce_143), (148, Breduce_148), (150, Breduce_150), (202, Breduce_202), (231, Breduce_231), (235, Breduce_235), (237, Breduce_237), (253, Breduce_253), (260, Breduce_260), (264, Breduce_264), (265, Breduce_265), (269, Breduce_269)]
set_option maxRecDepth 100000 in
theorem okBreduce : rokM cX12_reduce 8 none Breduce = true := by sorry
def Bcomplete_0 : List RI := [(.aload_n 0, 1, 0, 0, []), (.iconst 1, 1, 0, 0, []), (.invokevirtual 504, 3, 1, 32, []), (.aload_n 0, 1, 0, 0, []), (.getfield 440, 3, 0, 29, []), (.ifCond .le 7, 3, 0, 16, [])]
def Bcomplete_12 : List RI := [(.iconst 1, 1, 0, 0, []), (.goto 4, 3, 0, 17, [])]
def Bcomplete_16 : List RI := [(.iconst 0, 1, 0, 0, [])]
def Bcomplete_17 : List RI := [(.istore_n 1, 1, 0, 1, [])]
def Bcomplete_18 : List RI := [(.iload_n 1, 1, 0, 1, []), (.ifCond .eq 219, 3, 0, 238, [])]
def Bcomplete_22 : List RI := [(.aload_n 0, 1, 0, 0, []), (.getfield 60, 3, 3, 25, []), (.aload_n 0, 1, 0, 0, []), (.getfield 440, 3, 0, 29, []), (.iconst 1, 1, 0, 0, []), (.isub, 1, 0, 0, []), (.iaload, 1, 0, 0, []), (.istore_n 2, 1, 0, 2, []), (.iload_n 2, 1, 0, 2, []), (.bipush 7, 2, 0, 0, []), (.if_icmp .eq 9, 3, 0, 46, [])]
def Bcomplete_40 : List RI := [(.iload_n 2, 1, 0, 2, []), (.iconst 5, 1, 0, 0, []), (.if_icmp .eq 4, 3, 0, 46, [])]
def Bcomplete_45 : List RI := [(.return_, 1, 0, 0, [])]
def Bcomplete_46 : List RI := [(.aload_n 0, 1, 0, 0, []), (.dup, 1, 0, 0, []), (.getfield 440, 3, 0, 29, []), (.iconst 1, 1, 0, 0, []), (.isub, 1, 0, 0, []), (.putfield 440, 3, 0, 29, []), (.aload_n 0, 1, 0, 0, []), (.dup, 1, 0, 0, []), (.getfield 430, 3, 0, 17, []), (.iconst 1, 1, 0, 0, []), (.isub, 1, 0, 0, []), (.putfield 430, 3, 0, 17, []), (.aload_n 0, 1, 0, 0, []), (.getfield 66, 3, 3, 27, []), (.aload_n 0, 1, 0, 0, []), (.getfield 440, 3, 0, 29, []), (.iaload, 1, 0, 0, []), (.istore_n 3, 1, 0, 3, []), (.iload_n 2, 1, 0, 2, []), (.bipush 7, 2, 0, 0, []), (.if_icmp .ne 81, 3, 0, 160, [])]
def Bcomplete_82 : List RI := [(.aload_n 0, 1, 0, 0, []), (.dup, 1, 0, 0, []), (.getfield 443, 3, 0, 31, []), (.iconst 2, 1, 0, 0, []), (.isub, 1, 0, 0, []), (.putfield 443, 3, 0, 31, []), (.aload_n 0, 1, 0, 0, []), (.aload_n 0, 1, 0, 0, []), (.bipush 14, 2, 0, 0, []), (.iconst 0, 1, 0, 0, []), (.iload_n 3, 1, 0, 3, []), (.aload_n 0, 1, 0, 0, []), (.getfield 72, 3, 3, 30, []), (.aload_n 0, 1, 0, 0, []), (.getfield 443, 3, 0, 31, []), (.iconst 1, 1, 0, 0, []), (.isub, 1, 0, 0, []), (.iaload, 1, 0, 0, []), (.aload_n 0, 1, 0, 0, []), (.getfield 473, 3, 0, 32, []), (.invokevirtual 466, 3, 5, 21, []), (.putfield 470, 3, 0, 33, []), (.aload_n 0, 1, 0, 0, []), (.getfield 45, 3, 3, 20, []), (.aload_n 0, 1, 0, 0, []), (.getfield 470, 3, 0, 33, []), (.aload_n 0, 1, 0, 0, []), (.getfield 72, 3, 3, 30, []), (.aload_n 0, 1, 0, 0, []), (.getfield 443, 3, 0, 31, []), (.iaload, 1, 0, 0, []), (.iastore, 1, 0, 0, []), (.aload_n 0, 1, 0, 0, []), (.getfield 48, 3, 3, 21, []), (.aload_n 0, 1, 0, 0, []), (.getfield 470, 3, 0, 33, []), (.aload_n 0, 1, 0, 0, []), (.getfield 72, 3, 3, 30, []), (.aload_n 0, 1, 0, 0, []), (.getfield 443, 3, 0, 31, []), (.iconst 1, 1, 0, 0, []), (.iadd, 1, 0, 0, []), (.iaload, 1, 0, 0, []), (.iastore, 1, 0, 0, []), (.goto 60, 3, 0, 217, [])]
def Bcomplete_160 : List RI := [(.aload_n 0, 1, 0, 0, []), (.aload_n 0, 1, 0, 0, []), (.bipush 17, 2, 0, 0, []), (.aload_n 0, 1, 0, 0, []), (.getfield 63, 3, 3, 26, []), (.aload_n 0, 1, 0, 0, []), (.getfield 440, 3, 0, 29, []), (.iaload, 1, 0, 0, []), (.iload_n 3, 1, 0, 3, []), (.iload_n 3, 1, 0, 3, []), (.aload_n 0, 1, 0, 0, []), (.getfield 473, 3, 0, 32, []), (.invokevirtual 466, 3, 5, 21, []), (.putfield 470, 3, 0, 33, []), (.aload_n 0, 1, 0, 0, []), (.getfield 48, 3, 3, 21, []), (.aload_n 0, 1, 0, 0, []), (.getfield 470, 3, 0, 33, []), (.aload_n 0, 1, 0, 0, []), (.getfield 72, 3, 3, 30, []), (.aload_n 0, 1, 0, 0, []), (.getfield 443, 3, 0, 31, []), (.iconst 1, 1, 0, 0, []), (.isub, 1, 0, 0, []), (.iaload, 1, 0, 0, []), (.iastore, 1, 0, 0, []), (.aload_n 0, 1, 0, 0, []), (.getfield 72, 3, 3, 30, []), (.aload_n 0, 1, 0, 0, []), (.getfield 443, 3, 0, 31, []), (.iconst 1, 1, 0, 0, []), (.isub, 1, 0, 0, []), (.iload_n 3, 1, 0, 3, []), (.iastore, 1, 0, 0, [])]
def Bcomplete_217 : List RI := [(.aload_n 0, 1, 0, 0, []), (.iconst 1, 1, 0, 0, []), (.invokevirtual 504, 3, 1, 32, []), (.aload_n 0, 1, 0, 0, []), (.getfield 440, 3, 0, 29, []), (.ifCond .le 7, 3, 0, 233, [])]
def Bcomplete_229 : List RI := [(.iconst 1, 1, 0, 0, []), (.goto 4, 3, 0, 234, [])]
def Bcomplete_233 : List RI := [(.iconst 0, 1, 0, 0, [])]
def Bcomplete_234 : List RI := [(.istore_n 1, 1, 0, 1, []), (.goto (-217), 3, 0, 18, [])]
def Bcomplete_238 : List RI := [(.return_, 1, 0, 0, [])]
def Bcomplete : RB := [(0, Bcomplete_0), (12, Bcomplete_12), (16, Bcomplete_16), (17, Bcomplete_17), (18, Bcomplete_18), (22, Bcomplete_22), (40, Bcomplete_40), (45, Bcomplete_45), (46, Bcomplete_46), (82, Bcomplete_82), (160, Bcomplete_160), (217, Bcomplete_217), (229, Bcomplete_229), (233, Bcomplete_233), (234, Bcomplete_234), (238, Bcomplete_238)]
set_option maxRecDepth 100000 in
theorem okBcomplete : rokM cX12_complete 4 none Bcomplete = true := by sorry
def Bbehind_0 : List RI := [(.iconst 1, 1, 0, 0, []), (.istore_n 1, 1, 0, 1, [])]
def Bbehind_2 : List RI := [(.iload_n 1, 1, 0, 1, []), (.ifCond .eq 533, 3, 0, 536, [])]
def Bbehind_6 : List RI := [(.iconst 0, 1, 0, 0, []), (.istore_n 1, 1, 0, 1, []), (.aload_n 0, 1, 0, 0, []), (.getfield 13, 3, 3, 3, []), (.aload_n 0, 1, 0, 0, []), (.getfield 413, 3, 0, 14, []), (.iaload, 1, 0, 0, []), (.iconst 5, 1, 0, 0, []), (.if_icmp .ne 19, 3, 0, 37, [])]
def Bbehind_21 : List RI := [(.aload_n 0, 1, 0, 0, []), (.aload_n 0, 1, 0, 0, []), (.getfield 22, 3, 3, 6, []), (.aload_n 0, 1, 0, 0, []), (.getfield 413, 3, 0, 14, []), (.iaload, 1, 0, 0, []), (.invokevirtual 501, 3, 1, 22, []), (.goto 4, 3, 0, 38, [])]
def Bbehind_37 : List RI := [(.iconst 0, 1, 0, 0, [])]
def Bbehind_38 : List RI := [(.istore_n 2, 1, 0, 2, []), (.iload_n 2, 1, 0, 2, []), (.ifCond .le 102, 3, 0, 142, [])]
def Bbehind_43 : List RI := [(.aload_n 0, 1, 0, 0, []), (.getfield 22, 3, 3, 6, []), (.aload_n 0, 1, 0, 0, []), (.getfield 413, 3, 0, 14, []), (.iaload, 1, 0, 0, []), (.istore_n 3, 1, 0, 3, []), (.aload_n 0, 1, 0, 0, []), (.getfield 413, 3, 0, 14, []), (.istore 4, 2, 0, 0, []), (.aload_n 0, 1, 0, 0, []), (.iload_n 2, 1, 0, 2, []), (.invokevirtual 504, 3, 1, 32, []), (.aload_n 0, 1, 0, 0, []), (.invokevirtual 423, 3, 0, 17, []), (.ifCond .ne 5, 3, 0, 73, [])]
def Bbehind_71 : List RI := [(.iconst 0, 1, 0, 0, []), (.ireturn, 1, 2, 0, [])]
def Bbehind_73 : List RI := [(.iload_n 3, 1, 0, 3, []), (.sipush 307, 3, 0, 0, []), (.if_icmp .ne 23, 3, 0, 100, [])]
def Bbehind_80 : List RI := [(.aload_n 0, 1, 0, 0, []), (.bipush 8, 2, 0, 0, []), (.aload_n 0, 1, 0, 0, []), (.getfield 72, 3, 3, 30, []), (.aload_n 0, 1, 0, 0, []), (.getfield 443, 3, 0, 31, []), (.iconst 1, 1, 0, 0, []), (.isub, 1, 0, 0, []), (.iaload, 1, 0, 0, []), (.iload 4, 2, 0, 0, []), (.invokevirtual 436, 3, 3, 20, []), (.pop, 1, 0, 0, [])]
def Bbehind_100 : List RI := [(.iload_n 3, 1, 0, 3, []), (.sipush 308, 3, 0, 0, []), (.if_icmp .ne 23, 3, 0, 127, [])]
def Bbehind_107 : List RI := [(.aload_n 0, 1, 0, 0, []), (.bipush 10, 2, 0, 0, []), (.aload_n 0, 1, 0, 0, []), (.getfield 72, 3, 3, 30, []), (.aload_n 0, 1, 0, 0, []), (.getfield 443, 3, 0, 31, []), (.iconst 1, 1, 0, 0, []), (.isub, 1, 0, 0, []), (.iaload, 1, 0, 0, []), (.iload 4, 2, 0, 0, []), (.invokevirtual 436, 3, 3, 20, []), (.pop, 1, 0, 0, [])]
def Bbehind_127 : List RI := [(.aload_n 0, 1, 0, 0, []), (.iconst 2, 1, 0, 0, []), (.iload_n 3, 1, 0, 3, []), (.iload 4, 2, 0, 0, []), (.invokevirtual 482, 3, 3, 25, []), (.pop, 1, 0, 0, []), (.aload_n 0, 1, 0, 0, []), (.iconst 0, 1, 0, 0, []), (.invokevirtual 486, 3, 1, 28, []), (.ireturn, 1, 2, 0, [])]
def Bbehind_142 : List RI := [(.aload_n 0, 1, 0, 0, []), (.bipush 63, 2, 0, 0, []), (.invokevirtual 420, 3, 1, 14, []), (.ifCond .eq 63, 3, 0, 211, [])]
def Bbehind_151 : List RI := [(.aload_n 0, 1, 0, 0, []), (.getfield 413, 3, 0, 14, []), (.istore_n 3, 1, 0, 3, []), (.aload_n 0, 1, 0, 0, []), (.iconst 1, 1, 0, 0, []), (.invokevirtual 504, 3, 1, 32, []), (.aload_n 0, 1, 0, 0, []), (.invokevirtual 423, 3, 0, 17, []), (.ifCond .eq 10, 3, 0, 175, [])]
def Bbehind_168 : List RI := [(.aload_n 0, 1, 0, 0, []), (.invokevirtual 479, 3, 0, 19, []), (.ifCond .ne 5, 3, 0, 177, [])]
def Bbehind_175 : List RI := [(.iconst 0, 1, 0, 0, []), (.ireturn, 1, 2, 0, [])]
def Bbehind_177 : List RI := [(.aload_n 0, 1, 0, 0, []), (.bipush 12, 2, 0, 0, []), (.aload_n 0, 1, 0, 0, []), (.getfield 72, 3, 3, 30, []), (.aload_n 0, 1, 0, 0, []), (.getfield 443, 3, 0, 31, []), (.iconst 1, 1, 0, 0, []), (.isub, 1, 0, 0, []), (.iaload, 1, 0, 0, []), (.iload_n 3, 1, 0, 3, []), (.invokevirtual 436, 3, 3, 20, []), (.pop, 1, 0, 0, []), (.aload_n 0, 1, 0, 0, []), (.bipush 6, 2, 0, 0, []), (.iconst 0, 1, 0, 0, []), (.iload_n 3, 1, 0, 3, []), (.invokevirtual 482, 3, 3, 25, []), (.pop, 1, 0, 0, []), (.aload_n 0, 1, 0, 0, []), (.iconst 1, 1, 0, 0, []), (.invokevirtual 486, 3, 1, 28, []), (.ireturn, 1, 2, 0, [])]
def Bbehind_211 : List RI := [(.aload_n 0, 1, 0, 0, []), (.invokevirtual 507, 3, 0, 33, []), (.aload_n 0, 1, 0, 0, []), (.getfield 440, 3, 0, 29, []), (.ifCond .le 17, 3, 0, 236, [])]
def Bbehind_222 : List RI := [(.aload_n 0, 1, 0, 0, []), (.getfield 60, 3, 3, 25, []), (.aload_n 0, 1, 0, 0, []), (.getfield 440, 3, 0, 29, []), (.iconst 1, 1, 0, 0, []), (.isub, 1, 0, 0, []), (.iaload, 1, 0, 0, []), (.goto 5, 3, 0, 238, [])]
def Bbehind_236 : List RI := [(.bipush (-2), 2, 0, 0, [])]
def Bbehind_238 : List RI := [(.istore_n 3, 1, 0, 3, []), (.iload_n 3, 1, 0, 3, []), (.ifCond .ge 10, 3, 0, 250, [])]
def Bbehind_243 : List RI := [(.aload_n 0, 1, 0, 0, []), (.iconst 0, 1, 0, 0, []), (.putfield 450, 3, 1, 34, []), (.iconst 1, 1, 0, 0, []), (.ireturn, 1, 2, 0, [])]
def Bbehind_250 : List RI := [(.iload_n 3, 1, 0, 3, []), (.bipush 6, 2, 0, 0, []), (.if_icmp .ne 87, 3, 0, 340, [])]
def Bbehind_256 : List RI := [(.aload_n 0, 1, 0, 0, []), (.bipush 58, 2, 0, 0, []), (.invokevirtual 420, 3, 1, 14, []), (.ifCond .eq 78, 3, 0, 340, [])]
def Bbehind_265 : List RI := [(.aload_n 0, 1, 0, 0, []), (.getfield 66, 3, 3, 27, []), (.aload_n 0, 1, 0, 0, []), (.getfield 440, 3, 0, 29, []), (.iconst 1, 1, 0, 0, []), (.isub, 1, 0, 0, []), (.iaload, 1, 0, 0, []), (.istore 4, 2, 0, 0, []), (.aload_n 0, 1, 0, 0, []), (.dup, 1, 0, 0, []), (.getfield 440, 3, 0, 29, []), (.iconst 1, 1, 0, 0, []), (.isub, 1, 0, 0, []), (.putfield 440, 3, 0, 29, []), (.aload_n 0, 1, 0, 0, []), (.dup, 1, 0, 0, []), (.getfield 430, 3, 0, 17, []), (.iconst 1, 1, 0, 0, []), (.isub, 1, 0, 0, []), (.putfield 430, 3, 0, 17, []), (.aload_n 0, 1, 0, 0, []), (.invokevirtual 423, 3, 0, 17, []), (.ifCond .eq 10, 3, 0, 312, [])]
def Bbehind_305 : List RI := [(.aload_n 0, 1, 0, 0, []), (.invokevirtual 479, 3, 0, 19, []), (.ifCond .ne 5, 3, 0, 314, [])]
def Bbehind_312 : List RI := [(.iconst 0, 1, 0, 0, []), (.ireturn, 1, 2, 0, [])]
def Bbehind_314 : List RI := [(.aload_n 0, 1, 0, 0, []), (.bipush 13, 2, 0, 0, []), (.iconst 0, 1, 0, 0, []), (.iload 4, 2, 0, 0, []), (.invokevirtual 436, 3, 3, 20, []), (.pop, 1, 0, 0, []), (.aload_n 0, 1, 0, 0, []), (.bipush 7, 2, 0, 0, []), (.iconst 0, 1, 0, 0, []), (.iload 4, 2, 0, 0, []), (.invokevirtual 482, 3, 3, 25, []), (.pop, 1, 0, 0, []), (.aload_n 0, 1, 0, 0, []), (.iconst 0, 1, 0, 0, []), (.invokevirtual 486, 3, 1, 28, []), (.ireturn, 1, 2, 0, [])]
def Bbehind_340 : List RI := [(.iload_n 3, 1, 0, 3, []), (.iconst 4, 1, 0, 0, []), (.if_icmp .ne 42, 3, 0, 384, [])]
def Bbehind_345 : List RI := [(.aload_n 0, 1, 0, 0, []), (.bipush 44, 2, 0, 0, []), (.invokevirtual 420, 3, 1, 14, []), (.ifCond .eq 33, 3, 0, 384, [])]
def Bbehind_354 : List RI := [(.aload_n 0, 1, 0, 0, []), (.getfield 69, 3, 3, 28, []), (.aload_n 0, 1, 0, 0, []), (.getfield 440, 3, 0, 29, []), (.iconst 1, 1, 0, 0, []), (.isub, 1, 0, 0, []), (.dup2, 1, 0, 0, []), (.iaload, 1, 0, 0, []), (.iconst 1, 1, 0, 0, []), (.iadd, 1, 0, 0, []), (.iastore, 1, 0, 0, []), (.aload_n 0, 1, 0, 0, []), (.invokevirtual 423, 3, 0, 17, []), (.ifCond .ne 5, 3, 0, 378, [])]
def Bbehind_376 : List RI := [(.iconst 0, 1, 0, 0, []), (.ireturn, 1, 2, 0, [])]
def Bbehind_378 : List RI := [(.aload_n 0, 1, 0, 0, []), (.iconst 1, 1, 0, 0, []), (.invokevirtual 486, 3, 1, 28, []), (.ireturn, 1, 2, 0, [])]
def Bbehind_384 : List RI := [(.iload_n 3, 1, 0, 3, []), (.iconst 4, 1, 0, 0, []), (.if_icmp .ne 41, 3, 0, 427, [])]
def Bbehind_389 : List RI := [(.aload_n 0, 1, 0, 0, []), (.bipush 41, 2, 0, 0, []), (.invokevirtual 420, 3, 1, 14, []), (.ifCond .eq 32, 3, 0, 427, [])]
def Bbehind_398 : List RI := [(.aload_n 0, 1, 0, 0, []), (.getfield 69, 3, 3, 28, []), (.aload_n 0, 1, 0, 0, []), (.getfield 440, 3, 0, 29, []), (.iconst 1, 1, 0, 0, []), (.isub, 1, 0, 0, []), (.dup2, 1, 0, 0, []), (.iaload, 1, 0, 0, []), (.iconst 1, 1, 0, 0, []), (.iadd, 1, 0, 0, []), (.iastore, 1, 0, 0, []), (.aload_n 0, 1, 0, 0, []), (.invokevirtual 498, 3, 0, 31, []), (.ifCond .ne 5, 3, 0, 422, [])]
def Bbehind_420 : List RI := [(.iconst 0, 1, 0, 0, []), (.ireturn, 1, 2, 0, [])]
def Bbehind_422 : List RI := [(.iconst 1, 1, 0, 0, []), (.istore_n 1, 1, 0, 1, []), (.goto 109, 3, 0, 533, [])]
def Bbehind_427 : List RI := [(.iload_n 3, 1, 0, 3, []), (.iconst 3, 1, 0, 0, []), (.if_icmp .ne 99, 3, 0, 528, [])]
def Bbehind_432 : List RI := [(.aload_n 0, 1, 0, 0, []), (.bipush 41, 2, 0, 0, []), (.invokevirtual 420, 3, 1, 14, []), (.ifCond .eq 90, 3, 0, 528, [])]
def Bbehind_441 : List RI := [(.aload_n 0, 1, 0, 0, []), (.dup, 1, 0, 0, []), (.getfield 440, 3, 0, 29, []), (.iconst 1, 1, 0, 0, []), (.isub, 1, 0, 0, []), (.putfield 440, 3, 0, 29, []), (.aload_n 0, 1, 0, 0, []), (.getfield 66, 3, 3, 27, []), (.aload_n 0, 1, 0, 0, []), (.getfield 440, 3, 0, 29, []), (.iaload, 1, 0, 0, []), (.istore 4, 2, 0, 0, []), (.aload_n 0, 1, 0, 0, []), (.getfield 413, 3, 0, 14, []), (.istore 5, 2, 0, 0, []), (.aload_n 0, 1, 0, 0, []), (.invokevirtual 423, 3, 0, 17, []), (.ifCond .ne 5, 3, 0, 477, [])]
def Bbehind_475 : List RI := [(.iconst 0, 1, 0, 0, []), (.ireturn, 1, 2, 0, [])]
def Bbehind_477 : List RI := [(.aload_n 0, 1, 0, 0, []), (.dup, 1, 0, 0, []), (.getfield 430, 3, 0, 17, []), (.iconst 1, 1, 0, 0, []), (.isub, 1, 0, 0, []), (.putfield 430, 3, 0, 17, []), (.aload_n 0, 1, 0, 0, []), (.getfield 72, 3, 3, 30, []), (.aload_n 0, 1, 0, 0, []), (.getfield 443, 3, 0, 31, []), (.iconst 1, 1, 0, 0, []), (.isub, 1, 0, 0, []), (.iload 4, 2, 0, 0, []), (.iastore, 1, 0, 0, []), (.aload_n 0, 1, 0, 0, []), (.aload_n 0, 1, 0, 0, []), (.bipush 15, 2, 0, 0, []), (.iconst 0, 1, 0, 0, []), (.iload 4, 2, 0, 0, []), (.iload 4, 2, 0, 0, []), (.iload 5, 2, 0, 0, []), (.invokevirtual 466, 3, 5, 21, []), (.putfield 470, 3, 0, 33, []), (.aload_n 0, 1, 0, 0, []), (.iload 5, 2, 0, 0, []), (.putfield 473, 3, 0, 32, []), (.iconst 1, 1, 0, 0, []), (.istore_n 1, 1, 0, 1, []), (.goto 8, 3, 0, 533, [])]
def Bbehind_528 : List RI := [(.aload_n 0, 1, 0, 0, []), (.invokevirtual 427, 3, 0, 13, []), (.ireturn, 1, 2, 0, [])]
def Bbehind_533 : List RI := [(.goto (-531), 3, 0, 2, [])]
def Bbehind_536 : List RI := [(.iconst 1, 1, 0, 0, []), (.ireturn, 1, 2, 0, [])]
def Bbehind : RB := [(0, Bbehind_0), (2, Bbehind_2), (6, Bbehind_6), (21, Bbehind_21), (37, Bbehind_37), (38, Bbehind_38), (43, Bbehind_43), (71, Bbehind_71), (73, Bbehind_73), (80, Bbehind_80), (100, Bbehind_100), (107, Bbehind_107), (127, Bbehind_127), (142, Bbehind_142), (151, Bbehind_151), (168, Bbehind_168), (175, Bbehind_175), (177, Bbehind_177), (211, Bbehind_211), (222, Bbehind_222), (236, Bbehind_236), (238, Bbehind_238), (243, Bbehind_243), (250, Bbehind_250), (256, Bbehind_256), (265, Bbehind_265), (305, Bbehind_305), (312, Bbehind_312), (314, Bbehind_314), (340, Bbehind_340), (345, Bbehind_345), (354, Bbehind_354), (376, Bbehind_376), (378, Bbehind_378), (384, Bbehind_384), (389, Bbehind_389), (398, Bbehind_398), (420, Bbehind_420), (422, Bbehind_422), (427, Bbehind_427), (432, Bbehind_432), (441, Bbehind_441), (475, Bbehind_475), (477, Bbehind_477), (528, Bbehind_528), (533, Bbehind_533), (536, Bbehind_536)]
set_option maxRecDepth 100000 in
theorem okBbehind : rokM cX12_behind 6 (some .boolean) Bbehind = true := by sorry
def Bthing_0 : List RI := [(.aload_n 0, 1, 0, 0, []), (.getfield 510, 3, 0, 49, []), (.istore_n 3, 1, 0, 3, []), (.aload_n 0, 1, 0, 0, []), (.dup, 1, 0, 0, []), (.getfield 510, 3, 0, 49, []), (.iconst 1, 1, 0, 0, []), (.iadd, 1, 0, 0, []), (.putfield 510, 3, 0, 49, []), (.aload_n 0, 1, 0, 0, []), (.getfield 108, 3, 3, 50, []), (.iload_n 3, 1, 0, 3, []), (.iload_n 1, 1, 0, 1, []), (.iastore, 1, 0, 0, []), (.aload_n 0, 1, 0, 0, []), (.getfield 111, 3, 3, 51, []), (.iload_n 3, 1, 0, 3, []), (.aload_n 0, 1, 0, 0, []), (.getfield 433, 3, 0, 18, []), (.iastore, 1, 0, 0, []), (.aload_n 0, 1, 0, 0, []), (.getfield 114, 3, 3, 52, []), (.iload_n 3, 1, 0, 3, []), (.bipush (-2), 2, 0, 0, []), (.iastore, 1, 0, 0, []), (.aload_n 0, 1, 0, 0, []), (.getfield 117, 3, 3, 53, []), (.iload_n 3, 1, 0, 3, []), (.bipush (-2), 2, 0, 0, []), (.iastore, 1, 0, 0, []), (.aload_n 0, 1, 0, 0, []), (.getfield 120, 3, 3, 54, []), (.iload_n 3, 1, 0, 3, []), (.bipush (-2), 2, 0, 0, []), (.iastore, 1, 0, 0, []), (.aload_n 0, 1, 0, 0, []), (.getfield 123, 3, 3, 55, []), (.iload_n 3, 1, 0, 3, []), (.bipush (-2), 2, 0, 0, []), (.iastore, 1, 0, 0, []), (.aload_n 0, 1, 0, 0, []), (.getfield 126, 3, 3, 56, []), (.iload_n 3, 1, 0, 3, []), (.bipush (-2), 2, 0, 0, []), (.iastore, 1, 0, 0, []), (.aload_n 0, 1, 0, 0, []), (.getfield 129, 3, 3, 57, []), (.iload_n 3, 1, 0, 3, []), (.bipush (-2), 2, 0, 0, []), (.iastore, 1, 0, 0, []), (.aload_n 0, 1, 0, 0, []), (.getfield 132, 3, 3, 58, []), (.iload_n 3, 1, 0, 3, []), (.bipush (-2), 2, 0, 0, []), (.iastore, 1, 0, 0, []), (.aload_n 0, 1, 0, 0, []), (.getfield 135, 3, 3, 59, []), (.iload_n 3, 1, 0, 3, []), (.bipush (-2), 2, 0, 0, []), (.iastore, 1, 0, 0, []), (.aload_n 0, 1, 0, 0, []), (.getfield 138, 3, 3, 60, []), (.iload_n 3, 1, 0, 3, []), (.iload_n 2, 1, 0, 2, []), (.iastore, 1, 0, 0, []), (.aload_n 0, 1, 0, 0, []), (.getfield 141, 3, 3, 61, []), (.iload_n 3, 1, 0, 3, []), (.bipush (-2), 2, 0, 0, []), (.iastore, 1, 0, 0, []), (.iload_n 3, 1, 0, 3, []), (.ireturn, 1, 1, 0, [])]
def Bthing : RB := [(0, Bthing_0)]
set_option maxRecDepth 100000 in
theorem okBthing : rokM cX12_thing 4 (some .int) Bthing = true := by sorry
def Bopen_0 : List RI := [(.aload_n 0, 1, 0, 0, []), (.getfield 144, 3, 3, 63, []), (.aload_n 0, 1, 0, 0, []), (.getfield 513, 3, 0, 62, []), (.iload_n 1, 1, 0, 1, []), (.iastore, 1, 0, 0, []), (.aload_n 0, 1, 0, 0, []), (.getfield 147, 3, 3, 64, []), (.aload_n 0, 1, 0, 0, []), (.getfield 513, 3, 0, 62, []), (.iload_n 2, 1, 0, 2, []), (.iastore, 1, 0, 0, []), (.aload_n 0, 1, 0, 0, []), (.getfield 150, 3, 3, 65, []), (.aload_n 0, 1, 0, 0, []), (.getfield 513, 3, 0, 62, []), (.iload_n 3, 1, 0, 3, []), (.iastore, 1, 0, 0, []), (.aload_n 0, 1, 0, 0, []), (.dup, 1, 0, 0, []), (.getfield 513, 3, 0, 62, []), (.iconst 1, 1, 0, 0, []), (.iadd, 1, 0, 0, []), (.putfield 513, 3, 0, 62, []), (.aload_n 0, 1, 0, 0, []), (.invokevirtual 479, 3, 0, 19, []), (.ireturn, 1, 2, 0, [])]
def Bopen : RB := [(0, Bopen_0)]
set_option maxRecDepth 100000 in
theorem okBopen : rokM cX12_open 4 (some .boolean) Bopen = true := by sorry
def Bparse_0 : List RI := [(.aload_n 0, 1, 0, 0, []), (.iconst 0, 1, 0, 0, []), (.putfield 516, 3, 0, 36, []), (.aload_n 0, 1, 0, 0, []), (.iconst 0, 1, 0, 0, []), (.putfield 519, 3, 0, 42, []), (.aload_n 0, 1, 0, 0, []), (.iconst 0, 1, 0, 0, []), (.putfield 510, 3, 0, 49, []), (.aload_n 0, 1, 0, 0, []), (.iconst 0, 1, 0, 0, []), (.putfield 433, 3, 0, 18, []), (.aload_n 0, 1, 0, 0, []), (.iconst 0, 1, 0, 0, []), (.putfield 413, 3, 0, 14, []), (.aload_n 0, 1, 0, 0, []), (.iconst 0, 1, 0, 0, []), (.putfield 407, 3, 0, 15, []), (.aload_n 0, 1, 0, 0, []), (.iconst 0, 1, 0, 0, []), (.putfield 430, 3, 0, 17, [])]
def Bparse_35 : List RI := [(.aload_n 0, 1, 0, 0, []), (.getfield 13, 3, 3, 3, []), (.aload_n 0, 1, 0, 0, []), (.getfield 413, 3, 0, 14, []), (.iaload, 1, 0, 0, []), (.ifCond .eq 12, 3, 0, 56, [])]
def Bparse_47 : List RI := [(.aload_n 0, 1, 0, 0, []), (.invokevirtual 522, 3, 0, 38, []), (.ifCond .ne (-16), 3, 0, 35, [])]
def Bparse_54 : List RI := [(.iconst 0, 1, 0, 0, []), (.ireturn, 1, 2, 0, [])]
def Bparse_56 : List RI := [(.iconst 1, 1, 0, 0, []), (.ireturn, 1, 2, 0, [])]
def Bparse : RB := [(0, Bparse_0), (35, Bparse_35), (47, Bparse_47), (54, Bparse_54), (56, Bparse_56)]
set_option maxRecDepth 100000 in
theorem okBparse : rokM cX12_parse 1 (some .boolean) Bparse = true := by sorry
def Bmethod_0 : List RI := [(.aload_n 0, 1, 0, 0, []), (.iconst 5, 1, 0, 0, []), (.invokevirtual 463, 3, 1, 15, []), (.ifCond .ne 19, 3, 0, 24, [])]
def Bmethod_8 : List RI := [(.aload_n 0, 1, 0, 0, []), (.aload_n 0, 1, 0, 0, []), (.getfield 413, 3, 0, 14, []), (.invokevirtual 489, 3, 1, 23, []), (.ifCond .ne 8, 3, 0, 24, [])]
def Bmethod_19 : List RI := [(.aload_n 0, 1, 0, 0, []), (.invokevirtual 427, 3, 0, 13, []), (.ireturn, 1, 2, 0, [])]
def Bmethod_24 : List RI := [(.aload_n 0, 1, 0, 0, []), (.getfield 22, 3, 3, 6, []), (.aload_n 0, 1, 0, 0, []), (.getfield 413, 3, 0, 14, []), (.iaload, 1, 0, 0, []), (.istore_n 1, 1, 0, 1, []), (.aload_n 0, 1, 0, 0, []), (.invokevirtual 423, 3, 0, 17, []), (.ifCond .ne 5, 3, 0, 43, [])]
def Bmethod_41 : List RI := [(.iconst 0, 1, 0, 0, []), (.ireturn, 1, 2, 0, [])]
def Bmethod_43 : List RI := [(.aload_n 0, 1, 0, 0, []), (.getfield 13, 3, 3, 3, []), (.aload_n 0, 1, 0, 0, []), (.getfield 413, 3, 0, 14, []), (.iaload, 1, 0, 0, []), (.iconst 1, 1, 0, 0, []), (.if_icmp .eq 8, 3, 0, 61, [])]
def Bmethod_56 : List RI := [(.aload_n 0, 1, 0, 0, []), (.invokevirtual 427, 3, 0, 13, []), (.ireturn, 1, 2, 0, [])]
def Bmethod_61 : List RI := [(.aload_n 0, 1, 0, 0, []), (.getfield 516, 3, 0, 36, []), (.bipush 10, 2, 0, 0, []), (.if_icmp .ne 13, 3, 0, 80, [])]
def Bmethod_70 : List RI := [(.aload_n 0, 1, 0, 0, []), (.iconst 3, 1, 0, 0, []), (.aload_n 0, 1, 0, 0, []), (.getfield 413, 3, 0, 14, []), (.invokevirtual 416, 3, 2, 12, []), (.ireturn, 1, 2, 0, [])]
def Bmethod_80 : List RI := [(.aload_n 0, 1, 0, 0, []), (.getfield 516, 3, 0, 36, []), (.istore_n 2, 1, 0, 2, []), (.aload_n 0, 1, 0, 0, []), (.getfield 75, 3, 3, 37, []), (.iload_n 2, 1, 0, 2, []), (.aload_n 0, 1, 0, 0, []), (.getfield 413, 3, 0, 14, []), (.iastore, 1, 0, 0, []), (.aload_n 0, 1, 0, 0, []), (.getfield 78, 3, 3, 38, []), (.iload_n 2, 1, 0, 2, []), (.iload_n 1, 1, 0, 1, []), (.iastore, 1, 0, 0, []), (.aload_n 0, 1, 0, 0, []), (.getfield 81, 3, 3, 39, []), (.iload_n 2, 1, 0, 2, []), (.iconst 0, 1, 0, 0, []), (.iastore, 1, 0, 0, []), (.aload_n 0, 1, 0, 0, []), (.getfield 84, 3, 3, 40, []), (.iload_n 2, 1, 0, 2, []), (.aload_n 0, 1, 0, 0, []), (.getfield 519, 3, 0, 42, []), (.iastore, 1, 0, 0, []), (.aload_n 0, 1, 0, 0, []), (.iconst 0, 1, 0, 0, []), (.putfield 513, 3, 0, 62, []), (.aload_n 0, 1, 0, 0, []), (.iconst 0, 1, 0, 0, []), (.aload_n 0, 1, 0, 0, []), (.getfield 413, 3, 0, 14, []), (.invokevirtual 525, 3, 2, 35, []), (.istore_n 3, 1, 0, 3, []), (.aload_n 0, 1, 0, 0, []), (.invokevirtual 423, 3, 0, 17, []), (.ifCond .eq 12, 3, 0, 150, [])]
def Bmethod_141 : List RI := [(.aload_n 0, 1, 0, 0, []), (.bipush 40, 2, 0, 0, []), (.invokevirtual 492, 3, 1, 18, []), (.ifCond .ne 5, 3, 0, 152, [])]
def Bmethod_150 : List RI := [(.iconst 0, 1, 0, 0, []), (.ireturn, 1, 2, 0, [])]
def Bmethod_152 : List RI := [(.aload_n 0, 1, 0, 0, []), (.bipush 41, 2, 0, 0, []), (.invokevirtual 420, 3, 1, 14, []), (.ifCond .ne 7, 3, 0, 165, [])]
def Bmethod_161 : List RI := [(.iconst 1, 1, 0, 0, []), (.goto 4, 3, 0, 166, [])]
def Bmethod_165 : List RI := [(.iconst 0, 1, 0, 0, [])]
def Bmethod_166 : List RI := [(.istore 4, 2, 0, 0, [])]
def Bmethod_168 : List RI := [(.iload 4, 2, 0, 0, []), (.ifCond .eq 36, 3, 0, 206, [])]
def Bmethod_173 : List RI := [(.aload_n 0, 1, 0, 0, []), (.iload_n 2, 1, 0, 2, []), (.iload_n 3, 1, 0, 3, []), (.invokevirtual 529, 3, 2, 39, []), (.ifCond .ne 5, 3, 0, 184, [])]
def Bmethod_182 : List RI := [(.iconst 0, 1, 0, 0, []), (.ireturn, 1, 2, 0, [])]
def Bmethod_184 : List RI := [(.aload_n 0, 1, 0, 0, []), (.bipush 44, 2, 0, 0, []), (.invokevirtual 420, 3, 1, 14, []), (.istore 4, 2, 0, 0, []), (.iload 4, 2, 0, 0, []), (.ifCond .eq (-26), 3, 0, 168, [])]
def Bmethod_197 : List RI := [(.aload_n 0, 1, 0, 0, []), (.invokevirtual 423, 3, 0, 17, []), (.ifCond .ne (-33), 3, 0, 168, [])]
def Bmethod_204 : List RI := [(.iconst 0, 1, 0, 0, []), (.ireturn, 1, 2, 0, [])]
def Bmethod_206 : List RI := [(.aload_n 0, 1, 0, 0, []), (.bipush 41, 2, 0, 0, []), (.invokevirtual 492, 3, 1, 18, []), (.ifCond .ne 5, 3, 0, 217, [])]
def Bmethod_215 : List RI := [(.iconst 0, 1, 0, 0, []), (.ireturn, 1, 2, 0, [])]
def Bmethod_217 : List RI := [(.aload_n 0, 1, 0, 0, []), (.getfield 87, 3, 3, 41, []), (.iload_n 2, 1, 0, 2, []), (.aload_n 0, 1, 0, 0, []), (.getfield 433, 3, 0, 18, []), (.iastore, 1, 0, 0, []), (.aload_n 0, 1, 0, 0, []), (.dup, 1, 0, 0, []), (.getfield 516, 3, 0, 36, []), (.iconst 1, 1, 0, 0, []), (.iadd, 1, 0, 0, []), (.putfield 516, 3, 0, 36, []), (.aload_n 0, 1, 0, 0, []), (.bipush 123, 2, 0, 0, []), (.invokevirtual 492, 3, 1, 18, []), (.ifCond .eq 14, 3, 0, 257, [])]
def Bmethod_246 : List RI := [(.aload_n 0, 1, 0, 0, []), (.iconst 0, 1, 0, 0, []), (.iload_n 3, 1, 0, 3, []), (.bipush (-2), 2, 0, 0, []), (.invokevirtual 532, 3, 3, 36, []), (.ifCond .ne 5, 3, 0, 259, [])]
def Bmethod_257 : List RI := [(.iconst 0, 1, 0, 0, []), (.ireturn, 1, 2, 0, [])]
def Bmethod_259 : List RI := [(.aload_n 0, 1, 0, 0, []), (.getfield 513, 3, 0, 62, []), (.ifCond .le 12, 3, 0, 275, [])]
def Bmethod_266 : List RI := [(.aload_n 0, 1, 0, 0, []), (.invokevirtual 535, 3, 0, 44, []), (.ifCond .ne (-11), 3, 0, 259, [])]
def Bmethod_273 : List RI := [(.iconst 0, 1, 0, 0, []), (.ireturn, 1, 2, 0, [])]
def Bmethod_275 : List RI := [(.iconst 1, 1, 0, 0, []), (.ireturn, 1, 2, 0, [])]
def Bmethod : RB := [(0, Bmethod_0), (8, Bmethod_8), (19, Bmethod_19), (24, Bmethod_24), (41, Bmethod_41), (43, Bmethod_43), (56, Bmethod_56), (61, Bmethod_61), (70, Bmethod_70), (80, Bmethod_80), (141, Bmethod_141), (150, Bmethod_150), (152, Bmethod_152), (161, Bmethod_161), (165, Bmethod_165), (166, Bmethod_166), (168, Bmethod_168), (173, Bmethod_173), (182, Bmethod_182), (184, Bmethod_184), (197, Bmethod_197), (204, Bmethod_204), (206, Bmethod_206), (215, Bmethod_215), (217, Bmethod_217), (246, Bmethod_246), (257, Bmethod_257), (259, Bmethod_259), (266, Bmethod_266), (273, Bmethod_273), (275, Bmethod_275)]
set_option maxRecDepth 100000 in
theorem okBmethod : rokM cX12_method 5 (some .boolean) Bmethod = true := by sorry
def Bparam_0 : List RI := [(.aload_n 0, 1, 0, 0, []), (.bipush 21, 2, 0, 0, []), (.invokevirtual 463, 3, 1, 15, []), (.istore_n 3, 1, 0, 3, []), (.iload_n 3, 1, 0, 3, []), (.ifCond .eq 12, 3, 0, 20, [])]
def Bparam_11 : List RI := [(.aload_n 0, 1, 0, 0, []), (.invokevirtual 423, 3, 0, 17, []), (.ifCond .ne 5, 3, 0, 20, [])]
def Bparam_18 : List RI := [(.iconst 0, 1, 0, 0, []), (.ireturn, 1, 2, 0, [])]
def Bparam_20 : List RI := [(.aload_n 0, 1, 0, 0, []), (.aload_n 0, 1, 0, 0, []), (.getfield 413, 3, 0, 14, []), (.invokevirtual 489, 3, 1, 23, []), (.ifCond .ne 8, 3, 0, 36, [])]
def Bparam_31 : List RI := [(.aload_n 0, 1, 0, 0, []), (.invokevirtual 427, 3, 0, 13, []), (.ireturn, 1, 2, 0, [])]
def Bparam_36 : List RI := [(.aload_n 0, 1, 0, 0, []), (.getfield 22, 3, 3, 6, []), (.aload_n 0, 1, 0, 0, []), (.getfield 413, 3, 0, 14, []), (.iaload, 1, 0, 0, []), (.istore 4, 2, 0, 0, []), (.aload_n 0, 1, 0, 0, []), (.invokevirtual 423, 3, 0, 17, []), (.ifCond .ne 5, 3, 0, 56, [])]
def Bparam_54 : List RI := [(.iconst 0, 1, 0, 0, []), (.ireturn, 1, 2, 0, [])]
def Bparam_56 : List RI := [(.aload_n 0, 1, 0, 0, []), (.getfield 13, 3, 3, 3, []), (.aload_n 0, 1, 0, 0, []), (.getfield 413, 3, 0, 14, []), (.iaload, 1, 0, 0, []), (.iconst 1, 1, 0, 0, []), (.if_icmp .eq 8, 3, 0, 74, [])]
def Bparam_69 : List RI := [(.aload_n 0, 1, 0, 0, []), (.invokevirtual 427, 3, 0, 13, []), (.ireturn, 1, 2, 0, [])]
def Bparam_74 : List RI := [(.aload_n 0, 1, 0, 0, []), (.getfield 81, 3, 3, 39, []), (.iload_n 1, 1, 0, 1, []), (.iaload, 1, 0, 0, []), (.bipush 6, 2, 0, 0, []), (.if_icmp .ne 13, 3, 0, 95, [])]
def Bparam_85 : List RI := [(.aload_n 0, 1, 0, 0, []), (.iconst 3, 1, 0, 0, []), (.aload_n 0, 1, 0, 0, []), (.getfield 413, 3, 0, 14, []), (.invokevirtual 416, 3, 2, 12, []), (.ireturn, 1, 2, 0, [])]
def Bparam_95 : List RI := [(.aload_n 0, 1, 0, 0, []), (.getfield 81, 3, 3, 39, []), (.iload_n 1, 1, 0, 1, []), (.dup2, 1, 0, 0, []), (.iaload, 1, 0, 0, []), (.iconst 1, 1, 0, 0, []), (.iadd, 1, 0, 0, []), (.iastore, 1, 0, 0, []), (.aload_n 0, 1, 0, 0, []), (.iload 4, 2, 0, 0, []), (.iload_n 3, 1, 0, 3, []), (.iload_n 2, 1, 0, 2, []), (.invokevirtual 538, 3, 3, 40, []), (.ireturn, 1, 2, 0, [])]
def Bparam : RB := [(0, Bparam_0), (11, Bparam_11), (18, Bparam_18), (20, Bparam_20), (31, Bparam_31), (36, Bparam_36), (54, Bparam_54), (56, Bparam_56), (69, Bparam_69), (74, Bparam_74), (85, Bparam_85), (95, Bparam_95)]
set_option maxRecDepth 100000 in
theorem okBparam : rokM cX12_param 5 (some .boolean) Bparam = true := by sorry
def Bvariable_0 : List RI := [(.aload_n 0, 1, 0, 0, []), (.getfield 519, 3, 0, 42, []), (.bipush 60, 2, 0, 0, []), (.if_icmp .ne 13, 3, 0, 19, [])]
def Bvariable_9 : List RI := [(.aload_n 0, 1, 0, 0, []), (.iconst 3, 1, 0, 0, []), (.aload_n 0, 1, 0, 0, []), (.getfield 413, 3, 0, 14, []), (.invokevirtual 416, 3, 2, 12, []), (.ireturn, 1, 2, 0, [])]
def Bvariable_19 : List RI := [(.aload_n 0, 1, 0, 0, []), (.getfield 519, 3, 0, 42, []), (.istore 4, 2, 0, 0, []), (.aload_n 0, 1, 0, 0, []), (.dup, 1, 0, 0, []), (.getfield 519, 3, 0, 42, []), (.iconst 1, 1, 0, 0, []), (.iadd, 1, 0, 0, []), (.putfield 519, 3, 0, 42, []), (.aload_n 0, 1, 0, 0, []), (.getfield 90, 3, 3, 43, []), (.iload 4, 2, 0, 0, []), (.aload_n 0, 1, 0, 0, []), (.getfield 413, 3, 0, 14, []), (.iastore, 1, 0, 0, []), (.aload_n 0, 1, 0, 0, []), (.getfield 93, 3, 3, 44, []), (.iload 4, 2, 0, 0, []), (.iload_n 1, 1, 0, 1, []), (.iastore, 1, 0, 0, []), (.aload_n 0, 1, 0, 0, []), (.getfield 96, 3, 4, 45, []), (.iload 4, 2, 0, 0, []), (.iload_n 2, 1, 0, 2, []), (.bastore, 1, 0, 0, []), (.aload_n 0, 1, 0, 0, []), (.getfield 99, 3, 3, 46, []), (.iload 4, 2, 0, 0, []), (.aload_n 0, 1, 0, 0, []), (.getfield 516, 3, 0, 36, []), (.ifCond .eq 10, 3, 0, 82, [])]
def Bvariable_75 : List RI := [(.aload_n 0, 1, 0, 0, []), (.getfield 513, 3, 0, 62, []), (.ifCond .ne 10, 3, 0, 89, [])]
def Bvariable_82 : List RI := [(.aload_n 0, 1, 0, 0, []), (.getfield 516, 3, 0, 36, []), (.goto 9, 3, 0, 95, [])]
def Bvariable_89 : List RI := [(.aload_n 0, 1, 0, 0, []), (.getfield 516, 3, 0, 36, []), (.iconst 1, 1, 0, 0, []), (.isub, 1, 0, 0, [])]
def Bvariable_95 : List RI := [(.iastore, 1, 0, 0, []), (.aload_n 0, 1, 0, 0, []), (.getfield 102, 3, 3, 47, []), (.iload 4, 2, 0, 0, []), (.iload_n 3, 1, 0, 3, []), (.iastore, 1, 0, 0, []), (.aload_n 0, 1, 0, 0, []), (.getfield 105, 3, 3, 48, []), (.iload 4, 2, 0, 0, []), (.bipush (-2), 2, 0, 0, []), (.iastore, 1, 0, 0, []), (.aload_n 0, 1, 0, 0, []), (.invokevirtual 423, 3, 0, 17, []), (.ireturn, 1, 2, 0, [])]
def Bvariable : RB := [(0, Bvariable_0), (9, Bvariable_9), (19, Bvariable_19), (75, Bvariable_75), (82, Bvariable_82), (89, Bvariable_89), (95, Bvariable_95)]
set_option maxRecDepth 100000 in
theorem okBvariable : rokM cX12_variable 5 (some .boolean) Bvariable = true := by sorry
def Bscope_0 : List RI := [(.aload_n 0, 1, 0, 0, []), (.getfield 513, 3, 0, 62, []), (.iconst 1, 1, 0, 0, []), (.isub, 1, 0, 0, []), (.istore_n 1, 1, 0, 1, [])]
def Bscope_7 : List RI := [(.aload_n 0, 1, 0, 0, []), (.getfield 144, 3, 3, 63, []), (.iload_n 1, 1, 0, 1, []), (.iaload, 1, 0, 0, []), (.ifCond .eq 41, 3, 0, 54, [])]
def Bscope_16 : List RI := [(.aload_n 0, 1, 0, 0, []), (.getfield 144, 3, 3, 63, []), (.iload_n 1, 1, 0, 1, []), (.iaload, 1, 0, 0, []), (.iconst 1, 1, 0, 0, []), (.if_icmp .eq 31, 3, 0, 54, [])]
def Bscope_26 : List RI := [(.aload_n 0, 1, 0, 0, []), (.getfield 144, 3, 3, 63, []), (.iload_n 1, 1, 0, 1, []), (.iaload, 1, 0, 0, []), (.bipush 8, 2, 0, 0, []), (.if_icmp .eq 20, 3, 0, 54, [])]
def Bscope_37 : List RI := [(.aload_n 0, 1, 0, 0, []), (.getfield 144, 3, 3, 63, []), (.iload_n 1, 1, 0, 1, []), (.iaload, 1, 0, 0, []), (.bipush 9, 2, 0, 0, []), (.if_icmp .ge 9, 3, 0, 54, [])]
def Bscope_48 : List RI := [(.iinc 1 (-1), 3, 0, 0, []), (.goto (-44), 3, 0, 7, [])]
def Bscope_54 : List RI := [(.aload_n 0, 1, 0, 0, []), (.getfield 144, 3, 3, 63, []), (.iload_n 1, 1, 0, 1, []), (.iaload, 1, 0, 0, []), (.bipush 9, 2, 0, 0, []), (.if_icmp .lt 28, 3, 0, 90, [])]
def Bscope_65 : List RI := [(.sipush 1000, 3, 0, 0, []), (.iconst 3, 1, 0, 0, []), (.aload_n 0, 1, 0, 0, []), (.getfield 147, 3, 3, 64, []), (.iload_n 1, 1, 0, 1, []), (.iaload, 1, 0, 0, []), (.imul, 1, 0, 0, []), (.iadd, 1, 0, 0, []), (.aload_n 0, 1, 0, 0, []), (.getfield 144, 3, 3, 63, []), (.iload_n 1, 1, 0, 1, []), (.iaload, 1, 0, 0, []), (.iadd, 1, 0, 0, []), (.bipush 9, 2, 0, 0, []), (.isub, 1, 0, 0, []), (.goto 9, 3, 0, 96, [])]
def Bscope_90 : List RI := [(.aload_n 0, 1, 0, 0, []), (.getfield 147, 3, 3, 64, []), (.iload_n 1, 1, 0, 1, []), (.iaload, 1, 0, 0, [])]
def Bscope_96 : List RI := [(.ireturn, 1, 1, 0, [])]
def Bscope : RB := [(0, Bscope_0), (7, Bscope_7), (16, Bscope_16), (26, Bscope_26), (37, Bscope_37), (48, Bscope_48), (54, Bscope_54), (65, Bscope_65), (90, Bscope_90), (96, Bscope_96)]
set_option maxRecDepth 100000 in
theorem okBscope : rokM cX12_scope 2 (some .int) Bscope = true := by sorry
def Bleave_0 : List RI := [(.iconst 0, 1, 0, 0, []), (.istore_n 3, 1, 0, 3, [])]
def Bleave_2 : List RI := [(.iload_n 3, 1, 0, 3, []), (.aload_n 0, 1, 0, 0, []), (.getfield 519, 3, 0, 42, []), (.if_icmp .ge 35, 3, 0, 42, [])]
def Bleave_10 : List RI := [(.aload_n 0, 1, 0, 0, []), (.getfield 102, 3, 3, 47, []), (.iload_n 3, 1, 0, 3, []), (.iaload, 1, 0, 0, []), (.iload_n 1, 1, 0, 1, []), (.if_icmp .ne 19, 3, 0, 36, [])]
def Bleave_20 : List RI := [(.aload_n 0, 1, 0, 0, []), (.getfield 105, 3, 3, 48, []), (.iload_n 3, 1, 0, 3, []), (.iaload, 1, 0, 0, []), (.ifCond .ge 10, 3, 0, 36, [])]
def Bleave_29 : List RI := [(.aload_n 0, 1, 0, 0, []), (.getfield 105, 3, 3, 48, []), (.iload_n 3, 1, 0, 3, []), (.iload_n 2, 1, 0, 2, []), (.iastore, 1, 0, 0, [])]
def Bleave_36 : List RI := [(.iinc 3 1, 3, 0, 0, []), (.goto (-37), 3, 0, 2, [])]
def Bleave_42 : List RI := [(.return_, 1, 0, 0, [])]
def Bleave : RB := [(0, Bleave_0), (2, Bleave_2), (10, Bleave_10), (20, Bleave_20), (29, Bleave_29), (36, Bleave_36), (42, Bleave_42)]
set_option maxRecDepth 100000 in
theorem okBleave : rokM cX12_leave 4 none Bleave = true := by sorry
def BisRow_0 : List RI := [(.iload_n 1, 1, 0, 1, []), (.ifCond .eq 14, 3, 0, 15, [])]
def BisRow_4 : List RI := [(.iload_n 1, 1, 0, 1, []), (.iconst 1, 1, 0, 0, []), (.if_icmp .eq 9, 3, 0, 15, [])]
def BisRow_9 : List RI := [(.iload_n 1, 1, 0, 1, []), (.bipush 9, 2, 0, 0, []), (.if_icmp .lt 7, 3, 0, 19, [])]
def BisRow_15 : List RI := [(.iconst 1, 1, 0, 0, []), (.goto 4, 3, 0, 20, [])]
def BisRow_19 : List RI := [(.iconst 0, 1, 0, 0, [])]
def BisRow_20 : List RI := [(.ireturn, 1, 2, 0, [])]
def BisRow : RB := [(0, BisRow_0), (4, BisRow_4), (9, BisRow_9), (15, BisRow_15), (19, BisRow_19), (20, BisRow_20)]
set_option maxRecDepth 100000 in
theorem okBisRow : rokM cX12_isRow 2 (some .boolean) BisRow = true := by sorry
def Bpiece_0 : List RI := [(.aload_n 0, 1, 0, 0, []), (.getfield 144, 3, 3, 63, []), (.aload_n 0, 1, 0, 0, []), (.getfield 513, 3, 0, 62, []), (.iconst 1, 1, 0, 0, []), (.isub, 1, 0, 0, []), (.iaload, 1, 0, 0, []), (.istore_n 1, 1, 0, 1, []), (.aload_n 0, 1, 0, 0, []), (.iload_n 1, 1, 0, 1, []), (.invokevirtual 542, 3, 1, 43, []), (.ifCond .eq 37, 3, 0, 54, [])]
def Bpiece_20 : List RI := [(.aload_n 0, 1, 0, 0, []), (.bipush 125, 2, 0, 0, []), (.invokevirtual 420, 3, 1, 14, []), (.ifCond .eq 9, 3, 0, 35, [])]
def Bpiece_29 : List RI := [(.aload_n 0, 1, 0, 0, []), (.iload_n 1, 1, 0, 1, []), (.invokevirtual 545, 3, 1, 67, []), (.ireturn, 1, 2, 0, [])]
def Bpiece_35 : List RI := [(.aload_n 0, 1, 0, 0, []), (.invokevirtual 548, 3, 0, 46, []), (.ifCond .eq 10, 3, 0, 49, [])]
def Bpiece_42 : List RI := [(.aload_n 0, 1, 0, 0, []), (.invokevirtual 551, 3, 0, 47, []), (.goto 7, 3, 0, 53, [])]
def Bpiece_49 : List RI := [(.aload_n 0, 1, 0, 0, []), (.invokevirtual 554, 3, 0, 49, [])]
def Bpiece_53 : List RI := [(.ireturn, 1, 2, 0, [])]
def Bpiece_54 : List RI := [(.iload_n 1, 1, 0, 1, []), (.bipush 8, 2, 0, 0, []), (.if_icmp .ne 71, 3, 0, 128, [])]
def Bpiece_60 : List RI := [(.aload_n 0, 1, 0, 0, []), (.bipush 125, 2, 0, 0, []), (.invokevirtual 420, 3, 1, 14, []), (.ifCond .eq 8, 3, 0, 74, [])]
def Bpiece_69 : List RI := [(.aload_n 0, 1, 0, 0, []), (.invokevirtual 557, 3, 0, 60, []), (.ireturn, 1, 2, 0, [])]
def Bpiece_74 : List RI := [(.aload_n 0, 1, 0, 0, []), (.bipush 12, 2, 0, 0, []), (.invokevirtual 463, 3, 1, 15, []), (.ifCond .ne 12, 3, 0, 92, [])]
def Bpiece_83 : List RI := [(.aload_n 0, 1, 0, 0, []), (.bipush 13, 2, 0, 0, []), (.invokevirtual 463, 3, 1, 15, []), (.ifCond .eq 8, 3, 0, 97, [])]
def Bpiece_92 : List RI := [(.aload_n 0, 1, 0, 0, []), (.invokevirtual 560, 3, 0, 59, []), (.ireturn, 1, 2, 0, [])]
def Bpiece_97 : List RI := [(.aload_n 0, 1, 0, 0, []), (.invokevirtual 563, 3, 0, 45, []), (.ifCond .ne 8, 3, 0, 109, [])]
def Bpiece_104 : List RI := [(.aload_n 0, 1, 0, 0, []), (.invokevirtual 427, 3, 0, 13, []), (.ireturn, 1, 2, 0, [])]
def Bpiece_109 : List RI := [(.aload_n 0, 1, 0, 0, []), (.invokevirtual 548, 3, 0, 46, []), (.ifCond .eq 10, 3, 0, 123, [])]
def Bpiece_116 : List RI := [(.aload_n 0, 1, 0, 0, []), (.invokevirtual 551, 3, 0, 47, []), (.goto 7, 3, 0, 127, [])]
def Bpiece_123 : List RI := [(.aload_n 0, 1, 0, 0, []), (.invokevirtual 554, 3, 0, 49, [])]
def Bpiece_127 : List RI := [(.ireturn, 1, 2, 0, [])]
def Bpiece_128 : List RI := [(.aload_n 0, 1, 0, 0, []), (.invokevirtual 554, 3, 0, 49, []), (.ireturn, 1, 2, 0, [])]
def Bpiece : RB := [(0, Bpiece_0), (20, Bpiece_20), (29, Bpiece_29), (35, Bpiece_35), (42, Bpiece_42), (49, Bpiece_49), (53, Bpiece_53), (54, Bpiece_54), (60, Bpiece_60), (69, Bpiece_69), (74, Bpiece_74), (83, Bpiece_83), (92, Bpiece_92), (97, Bpiece_97), (104, Bpiece_104), (109, Bpiece_109), (116, Bpiece_116), (123, Bpiece_123), (127, Bpiece_127), (128, Bpiece_128)]
set_option maxRecDepth 100000 in
theorem okBpiece : rokM cX12_piece 2 (some .boolean) Bpiece = true := by sorry
def Bgrouped_0 : List RI := [(.aload_n 0, 1, 0, 0, []), (.getfield 147, 3, 3, 64, []), (.aload_n 0, 1, 0, 0, []), (.getfield 513, 3, 0, 62, []), (.iconst 1, 1, 0, 0, []), (.isub, 1, 0, 0, []), (.iaload, 1, 0, 0, []), (.istore_n 1, 1, 0, 1, []), (.iconst 0, 1, 0, 0, []), (.istore_n 2, 1, 0, 2, []), (.aload_n 0, 1, 0, 0, []), (.getfield 111, 3, 3, 51, []), (.iload_n 1, 1, 0, 1, []), (.iaload, 1, 0, 0, []), (.istore_n 3, 1, 0, 3, [])]
def Bgrouped_21 : List RI := [(.iload_n 3, 1, 0, 3, []), (.aload_n 0, 1, 0, 0, []), (.getfield 433, 3, 0, 18, []), (.if_icmp .ge 51, 3, 0, 77, [])]
def Bgrouped_29 : List RI := [(.iload_n 2, 1, 0, 2, []), (.ifCond .ne 35, 3, 0, 65, [])]
def Bgrouped_33 : List RI := [(.aload_n 0, 1, 0, 0, []), (.getfield 42, 3, 3, 19, []), (.iload_n 3, 1, 0, 3, []), (.iaload, 1, 0, 0, []), (.bipush 38, 2, 0, 0, []), (.if_icmp .eq 14, 3, 0, 55, [])]
def Bgrouped_44 : List RI := [(.aload_n 0, 1, 0, 0, []), (.getfield 42, 3, 3, 19, []), (.iload_n 3, 1, 0, 3, []), (.iaload, 1, 0, 0, []), (.bipush 39, 2, 0, 0, []), (.if_icmp .ne 17, 3, 0, 69, [])]
def Bgrouped_55 : List RI := [(.aload_n 0, 1, 0, 0, []), (.getfield 45, 3, 3, 20, []), (.iload_n 3, 1, 0, 3, []), (.iaload, 1, 0, 0, []), (.iload_n 1, 1, 0, 1, []), (.if_icmp .ne 7, 3, 0, 69, [])]
def Bgrouped_65 : List RI := [(.iconst 1, 1, 0, 0, []), (.goto 4, 3, 0, 70, [])]
def Bgrouped_69 : List RI := [(.iconst 0, 1, 0, 0, [])]
def Bgrouped_70 : List RI := [(.istore_n 2, 1, 0, 2, []), (.iinc 3 1, 3, 0, 0, []), (.goto (-53), 3, 0, 21, [])]
def Bgrouped_77 : List RI := [(.iload_n 2, 1, 0, 2, []), (.ireturn, 1, 2, 0, [])]
def Bgrouped : RB := [(0, Bgrouped_0), (21, Bgrouped_21), (29, Bgrouped_29), (33, Bgrouped_33), (44, Bgrouped_44), (55, Bgrouped_55), (65, Bgrouped_65), (69, Bgrouped_69), (70, Bgrouped_70), (77, Bgrouped_77)]
set_option maxRecDepth 100000 in
theorem okBgrouped : rokM cX12_grouped 4 (some .boolean) Bgrouped = true := by sorry
def BisTold_0 : List RI := [(.aload_n 0, 1, 0, 0, []), (.bipush 21, 2, 0, 0, []), (.invokevirtual 463, 3, 1, 15, []), (.ifCond .ne 14, 3, 0, 20, [])]
def BisTold_9 : List RI := [(.aload_n 0, 1, 0, 0, []), (.aload_n 0, 1, 0, 0, []), (.getfield 413, 3, 0, 14, []), (.invokevirtual 489, 3, 1, 23, []), (.ifCond .eq 7, 3, 0, 24, [])]
def BisTold_20 : List RI := [(.iconst 1, 1, 0, 0, []), (.goto 4, 3, 0, 25, [])]
def BisTold_24 : List RI := [(.iconst 0, 1, 0, 0, [])]
def BisTold_25 : List RI := [(.ireturn, 1, 2, 0, [])]
def BisTold : RB := [(0, BisTold_0), (9, BisTold_9), (20, BisTold_20), (24, BisTold_24), (25, BisTold_25)]
set_option maxRecDepth 100000 in
theorem okBisTold : rokM cX12_isTold 1 (some .boolean) BisTold = true := by sorry
def Btold_0 : List RI := [(.aload_n 0, 1, 0, 0, []), (.bipush 20, 2, 0, 0, []), (.iconst 0, 1, 0, 0, []), (.aload_n 0, 1, 0, 0, []), (.getfield 413, 3, 0, 14, []), (.invokevirtual 436, 3, 3, 20, []), (.istore_n 1, 1, 0, 1, []), (.aload_n 0, 1, 0, 0, []), (.aload_n 0, 1, 0, 0, []), (.invokevirtual 566, 3, 0, 41, []), (.invokevirtual 570, 3, 1, 48, []), (.ifCond .eq 12, 3, 0, 32, [])]
def Btold_23 : List RI := [(.aload_n 0, 1, 0, 0, []), (.bipush 59, 2, 0, 0, []), (.invokevirtual 492, 3, 1, 18, []), (.ifCond .ne 5, 3, 0, 34, [])]
def Btold_32 : List RI := [(.iconst 0, 1, 0, 0, []), (.ireturn, 1, 2, 0, [])]
def Btold_34 : List RI := [(.aload_n 0, 1, 0, 0, []), (.bipush 45, 2, 0, 0, []), (.iload_n 1, 1, 0, 1, []), (.aload_n 0, 1, 0, 0, []), (.getfield 51, 3, 3, 22, []), (.iload_n 1, 1, 0, 1, []), (.iaload, 1, 0, 0, []), (.invokevirtual 436, 3, 3, 20, []), (.pop, 1, 0, 0, []), (.iconst 1, 1, 0, 0, []), (.ireturn, 1, 2, 0, [])]
def Btold : RB := [(0, Btold_0), (23, Btold_23), (32, Btold_32), (34, Btold_34)]
set_option maxRecDepth 100000 in
theorem okBtold : rokM cX12_told 2 (some .boolean) Btold = true := by sorry
def Bdeclaration_0 : List RI := [(.aload_n 0, 1, 0, 0, []), (.bipush 21, 2, 0, 0, []), (.invokevirtual 463, 3, 1, 15, []), (.istore_n 2, 1, 0, 2, []), (.iload_n 2, 1, 0, 2, []), (.ifCond .eq 12, 3, 0, 20, [])]
def Bdeclaration_11 : List RI := [(.aload_n 0, 1, 0, 0, []), (.invokevirtual 423, 3, 0, 17, []), (.ifCond .ne 5, 3, 0, 20, [])]
def Bdeclaration_18 : List RI := [(.iconst 0, 1, 0, 0, []), (.ireturn, 1, 2, 0, [])]
def Bdeclaration_20 : List RI := [(.aload_n 0, 1, 0, 0, []), (.aload_n 0, 1, 0, 0, []), (.getfield 413, 3, 0, 14, []), (.invokevirtual 489, 3, 1, 23, []), (.ifCond .ne 8, 3, 0, 36, [])]
def Bdeclaration_31 : List RI := [(.aload_n 0, 1, 0, 0, []), (.invokevirtual 427, 3, 0, 13, []), (.ireturn, 1, 2, 0, [])]
def Bdeclaration_36 : List RI := [(.aload_n 0, 1, 0, 0, []), (.getfield 22, 3, 3, 6, []), (.aload_n 0, 1, 0, 0, []), (.getfield 413, 3, 0, 14, []), (.iaload, 1, 0, 0, []), (.istore_n 3, 1, 0, 3, []), (.aload_n 0, 1, 0, 0, []), (.invokevirtual 423, 3, 0, 17, []), (.ifCond .ne 5, 3, 0, 55, [])]
def Bdeclaration_53 : List RI := [(.iconst 0, 1, 0, 0, []), (.ireturn, 1, 2, 0, [])]
def Bdeclaration_55 : List RI := [(.aload_n 0, 1, 0, 0, []), (.getfield 13, 3, 3, 3, []), (.aload_n 0, 1, 0, 0, []), (.getfield 413, 3, 0, 14, []), (.iaload, 1, 0, 0, []), (.iconst 1, 1, 0, 0, []), (.if_icmp .eq 8, 3, 0, 73, [])]
def Bdeclaration_68 : List RI := [(.aload_n 0, 1, 0, 0, []), (.invokevirtual 427, 3, 0, 13, []), (.ireturn, 1, 2, 0, [])]
def Bdeclaration_73 : List RI := [(.aload_n 0, 1, 0, 0, []), (.getfield 519, 3, 0, 42, []), (.istore 4, 2, 0, 0, []), (.aload_n 0, 1, 0, 0, []), (.getfield 413, 3, 0, 14, []), (.istore 5, 2, 0, 0, []), (.aload_n 0, 1, 0, 0, []), (.iload_n 3, 1, 0, 3, []), (.iload_n 2, 1, 0, 2, []), (.iload_n 1, 1, 0, 1, []), (.invokevirtual 538, 3, 3, 40, []), (.ifCond .ne 5, 3, 0, 97, [])]
def Bdeclaration_95 : List RI := [(.iconst 0, 1, 0, 0, []), (.ireturn, 1, 2, 0, [])]
def Bdeclaration_97 : List RI := [(.aload_n 0, 1, 0, 0, []), (.bipush 61, 2, 0, 0, []), (.invokevirtual 420, 3, 1, 14, []), (.istore 6, 2, 0, 0, []), (.iload 6, 2, 0, 0, []), (.ifCond .ne 12, 3, 0, 119, [])]
def Bdeclaration_110 : List RI := [(.iload_n 2, 1, 0, 2, []), (.ifCond .eq 8, 3, 0, 119, [])]
def Bdeclaration_114 : List RI := [(.aload_n 0, 1, 0, 0, []), (.invokevirtual 427, 3, 0, 13, []), (.ireturn, 1, 2, 0, [])]
def Bdeclaration_119 : List RI := [(.iload 6, 2, 0, 0, []), (.ifCond .eq 35, 3, 0, 156, [])]
def Bdeclaration_124 : List RI := [(.aload_n 0, 1, 0, 0, []), (.getfield 48, 3, 3, 21, []), (.aload_n 0, 1, 0, 0, []), (.bipush 22, 2, 0, 0, []), (.iload 4, 2, 0, 0, []), (.iload 5, 2, 0, 0, []), (.invokevirtual 436, 3, 3, 20, []), (.iconst 2, 1, 0, 0, []), (.iastore, 1, 0, 0, []), (.aload_n 0, 1, 0, 0, []), (.invokevirtual 423, 3, 0, 17, []), (.ifCond .eq 10, 3, 0, 154, [])]
def Bdeclaration_147 : List RI := [(.aload_n 0, 1, 0, 0, []), (.invokevirtual 573, 3, 0, 27, []), (.ifCond .ne 5, 3, 0, 156, [])]
def Bdeclaration_154 : List RI := [(.iconst 0, 1, 0, 0, []), (.ireturn, 1, 2, 0, [])]
def Bdeclaration_156 : List RI := [(.aload_n 0, 1, 0, 0, []), (.bipush 22, 2, 0, 0, []), (.iload 4, 2, 0, 0, []), (.iload 5, 2, 0, 0, []), (.invokevirtual 436, 3, 3, 20, []), (.istore 7, 2, 0, 0, []), (.aload_n 0, 1, 0, 0, []), (.getfield 48, 3, 3, 21, []), (.iload 7, 2, 0, 0, []), (.iload 6, 2, 0, 0, []), (.ifCond .eq 7, 3, 0, 183, [])]
def Bdeclaration_179 : List RI := [(.iconst 1, 1, 0, 0, []), (.goto 4, 3, 0, 184, [])]
def Bdeclaration_183 : List RI := [(.iconst 0, 1, 0, 0, [])]
def Bdeclaration_184 : List RI := [(.iastore, 1, 0, 0, []), (.iconst 1, 1, 0, 0, []), (.ireturn, 1, 2, 0, [])]
def Bdeclaration : RB := [(0, Bdeclaration_0), (11, Bdeclaration_11), (18, Bdeclaration_18), (20, Bdeclaration_20), (31, Bdeclaration_31), (36, Bdeclaration_36), (53, Bdeclaration_53), (55, Bdeclaration_55), (68, Bdeclaration_68), (73, Bdeclaration_73), (95, Bdeclaration_95), (97, Bdeclaration_97), (110, Bdeclaration_110), (114, Bdeclaration_114), (119, Bdeclaration_119), (124, Bdeclaration_124), (147, Bdeclaration_147), (154, Bdeclaration_154), (156, Bdeclaration_156), (179, Bdeclaration_179), (183, Bdeclaration_183), (184, Bdeclaration_184)]
set_option maxRecDepth 100000 in
theorem okBdeclaration : rokM cX12_declaration 8 (some .boolean) Bdeclaration = true := by sorry
def Bstatement_0 : List RI := [(.aload_n 0, 1, 0, 0, []), (.getfield 413, 3, 0, 14, []), (.istore_n 1, 1, 0, 1, []), (.aload_n 0, 1, 0, 0, []), (.bipush 123, 2, 0, 0, []), (.invokevirtual 420, 3, 1, 14, []), (.ifCond .eq 42, 3, 0, 53, [])]
def Bstatement_14 : List RI := [(.aload_n 0, 1, 0, 0, []), (.bipush 20, 2, 0, 0, []), (.iconst 0, 1, 0, 0, []), (.iload_n 1, 1, 0, 1, []), (.invokevirtual 436, 3, 3, 20, []), (.istore_n 2, 1, 0, 2, []), (.aload_n 0, 1, 0, 0, []), (.iconst 1, 1, 0, 0, []), (.iload_n 1, 1, 0, 1, []), (.invokevirtual 525, 3, 2, 35, []), (.istore_n 3, 1, 0, 3, []), (.aload_n 0, 1, 0, 0, []), (.invokevirtual 423, 3, 0, 17, []), (.ifCond .eq 17, 3, 0, 51, [])]
def Bstatement_37 : List RI := [(.aload_n 0, 1, 0, 0, []), (.iconst 1, 1, 0, 0, []), (.iload_n 3, 1, 0, 3, []), (.iload_n 2, 1, 0, 2, []), (.invokevirtual 532, 3, 3, 36, []), (.ifCond .eq 7, 3, 0, 51, [])]
def Bstatement_47 : List RI := [(.iconst 1, 1, 0, 0, []), (.goto 4, 3, 0, 52, [])]
def Bstatement_51 : List RI := [(.iconst 0, 1, 0, 0, [])]
def Bstatement_52 : List RI := [(.ireturn, 1, 2, 0, [])]
def Bstatement_53 : List RI := [(.aload_n 0, 1, 0, 0, []), (.getfield 13, 3, 3, 3, []), (.iload_n 1, 1, 0, 1, []), (.iaload, 1, 0, 0, []), (.iconst 1, 1, 0, 0, []), (.if_icmp .ne 72, 3, 0, 132, [])]
def Bstatement_63 : List RI := [(.aload_n 0, 1, 0, 0, []), (.iload_n 1, 1, 0, 1, []), (.iconst 1, 1, 0, 0, []), (.iadd, 1, 0, 0, []), (.bipush 58, 2, 0, 0, []), (.invokevirtual 576, 3, 2, 16, []), (.ifCond .eq 60, 3, 0, 132, [])]
def Bstatement_75 : List RI := [(.aload_n 0, 1, 0, 0, []), (.bipush 20, 2, 0, 0, []), (.iconst 0, 1, 0, 0, []), (.iload_n 1, 1, 0, 1, []), (.invokevirtual 436, 3, 3, 20, []), (.istore_n 2, 1, 0, 2, []), (.aload_n 0, 1, 0, 0, []), (.bipush 7, 2, 0, 0, []), (.iload_n 1, 1, 0, 1, []), (.invokevirtual 525, 3, 2, 35, []), (.istore_n 3, 1, 0, 3, []), (.aload_n 0, 1, 0, 0, []), (.bipush 41, 2, 0, 0, []), (.iload_n 3, 1, 0, 3, []), (.iload_n 1, 1, 0, 1, []), (.invokevirtual 436, 3, 3, 20, []), (.pop, 1, 0, 0, []), (.aload_n 0, 1, 0, 0, []), (.invokevirtual 423, 3, 0, 17, []), (.ifCond .eq 25, 3, 0, 130, [])]
def Bstatement_108 : List RI := [(.aload_n 0, 1, 0, 0, []), (.invokevirtual 423, 3, 0, 17, []), (.ifCond .eq 18, 3, 0, 130, [])]
def Bstatement_115 : List RI := [(.aload_n 0, 1, 0, 0, []), (.bipush 7, 2, 0, 0, []), (.iload_n 3, 1, 0, 3, []), (.iload_n 2, 1, 0, 2, []), (.invokevirtual 532, 3, 3, 36, []), (.ifCond .eq 7, 3, 0, 130, [])]
def Bstatement_126 : List RI := [(.iconst 1, 1, 0, 0, []), (.goto 4, 3, 0, 131, [])]
def Bstatement_130 : List RI := [(.iconst 0, 1, 0, 0, [])]
def Bstatement_131 : List RI := [(.ireturn, 1, 2, 0, [])]
def Bstatement_132 : List RI := [(.aload_n 0, 1, 0, 0, []), (.getfield 13, 3, 3, 3, []), (.iload_n 1, 1, 0, 1, []), (.iaload, 1, 0, 0, []), (.iconst 4, 1, 0, 0, []), (.if_icmp .eq 8, 3, 0, 147, [])]
def Bstatement_142 : List RI := [(.aload_n 0, 1, 0, 0, []), (.invokevirtual 579, 3, 0, 50, []), (.ireturn, 1, 2, 0, [])]
def Bstatement_147 : List RI := [(.aload_n 0, 1, 0, 0, []), (.getfield 22, 3, 3, 6, []), (.iload_n 1, 1, 0, 1, []), (.iaload, 1, 0, 0, []), (.tableswitch 107 6 18 #[67, 107, 72, 82, 77, 87, 107, 107, 92, 92, 97, 97, 102], 67, 0, 260, [(6, 220), (7, 260), (8, 225), (9, 235), (10, 230), (11, 240), (12, 260), (13, 260), (14, 245), (15, 245), (16, 250), (17, 250), (18, 255)])]
def Bstatement_220 : List RI := [(.aload_n 0, 1, 0, 0, []), (.invokevirtual 582, 3, 0, 53, []), (.ireturn, 1, 2, 0, [])]
def Bstatement_225 : List RI := [(.aload_n 0, 1, 0, 0, []), (.invokevirtual 585, 3, 0, 54, []), (.ireturn, 1, 2, 0, [])]
def Bstatement_230 : List RI := [(.aload_n 0, 1, 0, 0, []), (.invokevirtual 588, 3, 0, 55, []), (.ireturn, 1, 2, 0, [])]
def Bstatement_235 : List RI := [(.aload_n 0, 1, 0, 0, []), (.invokevirtual 591, 3, 0, 57, []), (.ireturn, 1, 2, 0, [])]
def Bstatement_240 : List RI := [(.aload_n 0, 1, 0, 0, []), (.invokevirtual 594, 3, 0, 58, []), (.ireturn, 1, 2, 0, [])]
def Bstatement_245 : List RI := [(.aload_n 0, 1, 0, 0, []), (.invokevirtual 597, 3, 0, 62, []), (.ireturn, 1, 2, 0, [])]
def Bstatement_250 : List RI := [(.aload_n 0, 1, 0, 0, []), (.invokevirtual 600, 3, 0, 65, []), (.ireturn, 1, 2, 0, [])]
def Bstatement_255 : List RI := [(.aload_n 0, 1, 0, 0, []), (.invokevirtual 603, 3, 0, 66, []), (.ireturn, 1, 2, 0, [])]
def Bstatement_260 : List RI := [(.aload_n 0, 1, 0, 0, []), (.invokevirtual 579, 3, 0, 50, []), (.ireturn, 1, 2, 0, [])]
def Bstatement : RB := [(0, Bstatement_0), (14, Bstatement_14), (37, Bstatement_37), (47, Bstatement_47), (51, Bstatement_51), (52, Bstatement_52), (53, Bstatement_53), (63, Bstatement_63), (75, Bstatement_75), (108, Bstatement_108), (115, Bstatement_115), (126, Bstatement_126), (130, Bstatement_130), (131, Bstatement_131), (132, Bstatement_132), (142, Bstatement_142), (147, Bstatement_147), (220, Bstatement_220), (225, Bstatement_225), (230, Bstatement_230), (235, Bstatement_235), (240, Bstatement_240), (245, Bstatement_245), (250, Bstatement_250), (255, Bstatement_255), (260, Bstatement_260)]
set_option maxRecDepth 100000 in
theorem swstatement_153 : decode cX12_statement 153 = .ok (.tableswitch 107 6 18 #[67, 107, 72, 82, 77, 87, 107, 107, 92, 92, 97, 97, 102], 67) := by sorry
set_option maxRecDepth 100000 in
theorem okBstatement : rokM cX12_statement 4 (some .boolean) Bstatement = true := by sorry
def Bplain_0 : List RI := [(.aload_n 0, 1, 0, 0, []), (.bipush 20, 2, 0, 0, []), (.iconst 0, 1, 0, 0, []), (.aload_n 0, 1, 0, 0, []), (.getfield 413, 3, 0, 14, []), (.invokevirtual 436, 3, 3, 20, []), (.istore_n 1, 1, 0, 1, []), (.aload_n 0, 1, 0, 0, []), (.bipush 59, 2, 0, 0, []), (.invokevirtual 420, 3, 1, 14, []), (.ifCond .ne 16, 3, 0, 34, [])]
def Bplain_21 : List RI := [(.aload_n 0, 1, 0, 0, []), (.invokevirtual 573, 3, 0, 27, []), (.ifCond .ne 5, 3, 0, 30, [])]
def Bplain_28 : List RI := [(.iconst 0, 1, 0, 0, []), (.ireturn, 1, 2, 0, [])]
def Bplain_30 : List RI := [(.aload_n 0, 1, 0, 0, []), (.invokevirtual 606, 3, 0, 51, [])]
def Bplain_34 : List RI := [(.aload_n 0, 1, 0, 0, []), (.bipush 59, 2, 0, 0, []), (.invokevirtual 492, 3, 1, 18, []), (.ifCond .ne 5, 3, 0, 45, [])]
def Bplain_43 : List RI := [(.iconst 0, 1, 0, 0, []), (.ireturn, 1, 2, 0, [])]
def Bplain_45 : List RI := [(.aload_n 0, 1, 0, 0, []), (.bipush 45, 2, 0, 0, []), (.iload_n 1, 1, 0, 1, []), (.aload_n 0, 1, 0, 0, []), (.getfield 51, 3, 3, 22, []), (.iload_n 1, 1, 0, 1, []), (.iaload, 1, 0, 0, []), (.invokevirtual 436, 3, 3, 20, []), (.pop, 1, 0, 0, []), (.aload_n 0, 1, 0, 0, []), (.invokevirtual 609, 3, 0, 69, []), (.ireturn, 1, 2, 0, [])]
def Bplain : RB := [(0, Bplain_0), (21, Bplain_21), (28, Bplain_28), (30, Bplain_30), (34, Bplain_34), (43, Bplain_43), (45, Bplain_45)]
set_option maxRecDepth 100000 in
theorem okBplain : rokM cX12_plain 2 (some .boolean) Bplain = true := by sorry
def Bpop_0 : List RI := [(.aload_n 0, 1, 0, 0, []), (.getfield 42, 3, 3, 19, []), (.aload_n 0, 1, 0, 0, []), (.getfield 470, 3, 0, 33, []), (.iaload, 1, 0, 0, []), (.istore_n 1, 1, 0, 1, []), (.aload_n 0, 1, 0, 0, []), (.bipush 21, 2, 0, 0, []), (.iload_n 1, 1, 0, 1, []), (.bipush 17, 2, 0, 0, []), (.if_icmp .eq 19, 3, 0, 35, [])]
def Bpop_19 : List RI := [(.iload_n 1, 1, 0, 1, []), (.bipush 18, 2, 0, 0, []), (.if_icmp .eq 13, 3, 0, 35, [])]
def Bpop_25 : List RI := [(.iload_n 1, 1, 0, 1, []), (.iconst 4, 1, 0, 0, []), (.if_icmp .eq 8, 3, 0, 35, [])]
def Bpop_30 : List RI := [(.iload_n 1, 1, 0, 1, []), (.iconst 3, 1, 0, 0, []), (.if_icmp .ne 7, 3, 0, 39, [])]
def Bpop_35 : List RI := [(.iconst 1, 1, 0, 0, []), (.goto 4, 3, 0, 40, [])]
def Bpop_39 : List RI := [(.iconst 0, 1, 0, 0, [])]
def Bpop_40 : List RI := [(.aload_n 0, 1, 0, 0, []), (.getfield 54, 3, 3, 23, []), (.aload_n 0, 1, 0, 0, []), (.getfield 470, 3, 0, 33, []), (.iaload, 1, 0, 0, []), (.invokevirtual 436, 3, 3, 20, []), (.istore_n 2, 1, 0, 2, []), (.return_, 1, 0, 0, [])]
def Bpop : RB := [(0, Bpop_0), (19, Bpop_19), (25, Bpop_25), (30, Bpop_30), (35, Bpop_35), (39, Bpop_39), (40, Bpop_40)]
set_option maxRecDepth 100000 in
theorem okBpop : rokM cX12_pop 3 none Bpop = true := by sorry
def Bcondition_0 : List RI := [(.aload_n 0, 1, 0, 0, []), (.bipush 40, 2, 0, 0, []), (.invokevirtual 492, 3, 1, 18, []), (.ifCond .eq 23, 3, 0, 29, [])]
def Bcondition_9 : List RI := [(.aload_n 0, 1, 0, 0, []), (.invokevirtual 573, 3, 0, 27, []), (.ifCond .eq 16, 3, 0, 29, [])]
def Bcondition_16 : List RI := [(.aload_n 0, 1, 0, 0, []), (.bipush 41, 2, 0, 0, []), (.invokevirtual 492, 3, 1, 18, []), (.ifCond .eq 7, 3, 0, 29, [])]
def Bcondition_25 : List RI := [(.iconst 1, 1, 0, 0, []), (.goto 4, 3, 0, 30, [])]
def Bcondition_29 : List RI := [(.iconst 0, 1, 0, 0, [])]
def Bcondition_30 : List RI := [(.ireturn, 1, 2, 0, [])]
def Bcondition : RB := [(0, Bcondition_0), (9, Bcondition_9), (16, Bcondition_16), (25, Bcondition_25), (29, Bcondition_29), (30, Bcondition_30)]
set_option maxRecDepth 100000 in
theorem okBcondition : rokM cX12_condition 1 (some .boolean) Bcondition = true := by sorry
def BifOf_0 : List RI := [(.aload_n 0, 1, 0, 0, []), (.getfield 413, 3, 0, 14, []), (.istore_n 1, 1, 0, 1, []), (.aload_n 0, 1, 0, 0, []), (.bipush 20, 2, 0, 0, []), (.iconst 0, 1, 0, 0, []), (.iload_n 1, 1, 0, 1, []), (.invokevirtual 436, 3, 3, 20, []), (.istore_n 2, 1, 0, 2, []), (.aload_n 0, 1, 0, 0, []), (.iconst 2, 1, 0, 0, []), (.iload_n 1, 1, 0, 1, []), (.invokevirtual 525, 3, 2, 35, []), (.istore_n 3, 1, 0, 3, []), (.aload_n 0, 1, 0, 0, []), (.invokevirtual 423, 3, 0, 17, []), (.ifCond .eq 10, 3, 0, 35, [])]
def BifOf_28 : List RI := [(.aload_n 0, 1, 0, 0, []), (.invokevirtual 612, 3, 0, 52, []), (.ifCond .ne 5, 3, 0, 37, [])]
def BifOf_35 : List RI := [(.iconst 0, 1, 0, 0, []), (.ireturn, 1, 2, 0, [])]
def BifOf_37 : List RI := [(.aload_n 0, 1, 0, 0, []), (.bipush 23, 2, 0, 0, []), (.iload_n 3, 1, 0, 3, []), (.iload_n 1, 1, 0, 1, []), (.invokevirtual 436, 3, 3, 20, []), (.pop, 1, 0, 0, []), (.aload_n 0, 1, 0, 0, []), (.iconst 2, 1, 0, 0, []), (.iload_n 3, 1, 0, 3, []), (.iload_n 2, 1, 0, 2, []), (.invokevirtual 532, 3, 3, 36, []), (.ireturn, 1, 2, 0, [])]
def BifOf : RB := [(0, BifOf_0), (28, BifOf_28), (35, BifOf_35), (37, BifOf_37)]
set_option maxRecDepth 100000 in
theorem okBifOf : rokM cX12_ifOf 4 (some .boolean) BifOf = true := by sorry
def BwhileOf_0 : List RI := [(.aload_n 0, 1, 0, 0, []), (.getfield 413, 3, 0, 14, []), (.istore_n 1, 1, 0, 1, []), (.aload_n 0, 1, 0, 0, []), (.bipush 20, 2, 0, 0, []), (.iconst 0, 1, 0, 0, []), (.iload_n 1, 1, 0, 1, []), (.invokevirtual 436, 3, 3, 20, []), (.istore_n 2, 1, 0, 2, []), (.aload_n 0, 1, 0, 0, []), (.iconst 4, 1, 0, 0, []), (.iload_n 1, 1, 0, 1, []), (.invokevirtual 525, 3, 2, 35, []), (.istore_n 3, 1, 0, 3, []), (.aload_n 0, 1, 0, 0, []), (.bipush 26, 2, 0, 0, []), (.iload_n 3, 1, 0, 3, []), (.iload_n 1, 1, 0, 1, []), (.invokevirtual 436, 3, 3, 20, []), (.pop, 1, 0, 0, []), (.aload_n 0, 1, 0, 0, []), (.invokevirtual 423, 3, 0, 17, []), (.ifCond .eq 10, 3, 0, 44, [])]
def BwhileOf_37 : List RI := [(.aload_n 0, 1, 0, 0, []), (.invokevirtual 612, 3, 0, 52, []), (.ifCond .ne 5, 3, 0, 46, [])]
def BwhileOf_44 : List RI := [(.iconst 0, 1, 0, 0, []), (.ireturn, 1, 2, 0, [])]
def BwhileOf_46 : List RI := [(.aload_n 0, 1, 0, 0, []), (.getfield 114, 3, 3, 52, []), (.iload_n 3, 1, 0, 3, []), (.aload_n 0, 1, 0, 0, []), (.bipush 27, 2, 0, 0, []), (.iload_n 3, 1, 0, 3, []), (.iload_n 1, 1, 0, 1, []), (.invokevirtual 436, 3, 3, 20, []), (.iastore, 1, 0, 0, []), (.aload_n 0, 1, 0, 0, []), (.iconst 4, 1, 0, 0, []), (.iload_n 3, 1, 0, 3, []), (.iload_n 2, 1, 0, 2, []), (.invokevirtual 532, 3, 3, 36, []), (.ireturn, 1, 2, 0, [])]
def BwhileOf : RB := [(0, BwhileOf_0), (37, BwhileOf_37), (44, BwhileOf_44), (46, BwhileOf_46)]
set_option maxRecDepth 100000 in
theorem okBwhileOf : rokM cX12_whileOf 4 (some .boolean) BwhileOf = true := by sorry
def BdoOf_0 : List RI := [(.aload_n 0, 1, 0, 0, []), (.getfield 413, 3, 0, 14, []), (.istore_n 1, 1, 0, 1, []), (.aload_n 0, 1, 0, 0, []), (.bipush 20, 2, 0, 0, []), (.iconst 0, 1, 0, 0, []), (.iload_n 1, 1, 0, 1, []), (.invokevirtual 436, 3, 3, 20, []), (.istore_n 2, 1, 0, 2, []), (.aload_n 0, 1, 0, 0, []), (.iconst 5, 1, 0, 0, []), (.iload_n 1, 1, 0, 1, []), (.invokevirtual 525, 3, 2, 35, []), (.istore_n 3, 1, 0, 3, []), (.aload_n 0, 1, 0, 0, []), (.bipush 29, 2, 0, 0, []), (.iload_n 3, 1, 0, 3, []), (.iload_n 1, 1, 0, 1, []), (.invokevirtual 436, 3, 3, 20, []), (.pop, 1, 0, 0, []), (.aload_n 0, 1, 0, 0, []), (.invokevirtual 423, 3, 0, 17, []), (.ifCond .eq 17, 3, 0, 51, [])]
def BdoOf_37 : List RI := [(.aload_n 0, 1, 0, 0, []), (.iconst 5, 1, 0, 0, []), (.iload_n 3, 1, 0, 3, []), (.iload_n 2, 1, 0, 2, []), (.invokevirtual 532, 3, 3, 36, []), (.ifCond .eq 7, 3, 0, 51, [])]
def BdoOf_47 : List RI := [(.iconst 1, 1, 0, 0, []), (.goto 4, 3, 0, 52, [])]
def BdoOf_51 : List RI := [(.iconst 0, 1, 0, 0, [])]
def BdoOf_52 : List RI := [(.ireturn, 1, 2, 0, [])]
def BdoOf : RB := [(0, BdoOf_0), (37, BdoOf_37), (47, BdoOf_47), (51, BdoOf_51), (52, BdoOf_52)]
set_option maxRecDepth 100000 in
theorem okBdoOf : rokM cX12_doOf 4 (some .boolean) BdoOf = true := by sorry
def Bexps_0 : List RI := [(.iconst 1, 1, 0, 0, []), (.istore_n 1, 1, 0, 1, [])]
def Bexps_2 : List RI := [(.iload_n 1, 1, 0, 1, []), (.ifCond .eq 36, 3, 0, 39, [])]
def Bexps_6 : List RI := [(.aload_n 0, 1, 0, 0, []), (.invokevirtual 573, 3, 0, 27, []), (.ifCond .ne 5, 3, 0, 15, [])]
def Bexps_13 : List RI := [(.iconst 0, 1, 0, 0, []), (.ireturn, 1, 2, 0, [])]
def Bexps_15 : List RI := [(.aload_n 0, 1, 0, 0, []), (.invokevirtual 606, 3, 0, 51, []), (.aload_n 0, 1, 0, 0, []), (.bipush 44, 2, 0, 0, []), (.invokevirtual 420, 3, 1, 14, []), (.istore_n 1, 1, 0, 1, []), (.iload_n 1, 1, 0, 1, []), (.ifCond .eq (-25), 3, 0, 2, [])]
def Bexps_30 : List RI := [(.aload_n 0, 1, 0, 0, []), (.invokevirtual 423, 3, 0, 17, []), (.ifCond .ne (-32), 3, 0, 2, [])]
def Bexps_37 : List RI := [(.iconst 0, 1, 0, 0, []), (.ireturn, 1, 2, 0, [])]
def Bexps_39 : List RI := [(.iconst 1, 1, 0, 0, []), (.ireturn, 1, 2, 0, [])]
def Bexps : RB := [(0, Bexps_0), (2, Bexps_2), (6, Bexps_6), (13, Bexps_13), (15, Bexps_15), (30, Bexps_30), (37, Bexps_37), (39, Bexps_39)]
set_option maxRecDepth 100000 in
theorem okBexps : rokM cX12_exps 2 (some .boolean) Bexps = true := by sorry
def BforOf_0 : List RI := [(.aload_n 0, 1, 0, 0, []), (.getfield 413, 3, 0, 14, []), (.istore_n 1, 1, 0, 1, []), (.aload_n 0, 1, 0, 0, []), (.bipush 20, 2, 0, 0, []), (.iconst 0, 1, 0, 0, []), (.iload_n 1, 1, 0, 1, []), (.invokevirtual 436, 3, 3, 20, []), (.istore_n 2, 1, 0, 2, []), (.aload_n 0, 1, 0, 0, []), (.bipush 6, 2, 0, 0, []), (.iload_n 1, 1, 0, 1, []), (.invokevirtual 525, 3, 2, 35, []), (.istore_n 3, 1, 0, 3, []), (.aload_n 0, 1, 0, 0, []), (.invokevirtual 423, 3, 0, 17, []), (.ifCond .eq 12, 3, 0, 38, [])]
def BforOf_29 : List RI := [(.aload_n 0, 1, 0, 0, []), (.bipush 40, 2, 0, 0, []), (.invokevirtual 492, 3, 1, 18, []), (.ifCond .ne 5, 3, 0, 40, [])]
def BforOf_38 : List RI := [(.iconst 0, 1, 0, 0, []), (.ireturn, 1, 2, 0, [])]
def BforOf_40 : List RI := [(.aload_n 0, 1, 0, 0, []), (.invokevirtual 548, 3, 0, 46, []), (.ifCond .eq 13, 3, 0, 57, [])]
def BforOf_47 : List RI := [(.aload_n 0, 1, 0, 0, []), (.iload_n 3, 1, 0, 3, []), (.invokevirtual 570, 3, 1, 48, []), (.ifCond .ne 23, 3, 0, 75, [])]
def BforOf_55 : List RI := [(.iconst 0, 1, 0, 0, []), (.ireturn, 1, 2, 0, [])]
def BforOf_57 : List RI := [(.aload_n 0, 1, 0, 0, []), (.bipush 59, 2, 0, 0, []), (.invokevirtual 420, 3, 1, 14, []), (.ifCond .ne 12, 3, 0, 75, [])]
def BforOf_66 : List RI := [(.aload_n 0, 1, 0, 0, []), (.invokevirtual 615, 3, 0, 56, []), (.ifCond .ne 5, 3, 0, 75, [])]
def BforOf_73 : List RI := [(.iconst 0, 1, 0, 0, []), (.ireturn, 1, 2, 0, [])]
def BforOf_75 : List RI := [(.aload_n 0, 1, 0, 0, []), (.bipush 59, 2, 0, 0, []), (.invokevirtual 492, 3, 1, 18, []), (.ifCond .ne 5, 3, 0, 86, [])]
def BforOf_84 : List RI := [(.iconst 0, 1, 0, 0, []), (.ireturn, 1, 2, 0, [])]
def BforOf_86 : List RI := [(.aload_n 0, 1, 0, 0, []), (.getfield 126, 3, 3, 56, []), (.iload_n 3, 1, 0, 3, []), (.aload_n 0, 1, 0, 0, []), (.bipush 32, 2, 0, 0, []), (.iload_n 3, 1, 0, 3, []), (.iload_n 1, 1, 0, 1, []), (.invokevirtual 436, 3, 3, 20, []), (.iastore, 1, 0, 0, []), (.aload_n 0, 1, 0, 0, []), (.bipush 59, 2, 0, 0, []), (.invokevirtual 420, 3, 1, 14, []), (.ifCond .ne 7, 3, 0, 113, [])]
def BforOf_109 : List RI := [(.iconst 1, 1, 0, 0, []), (.goto 4, 3, 0, 114, [])]
def BforOf_113 : List RI := [(.iconst 0, 1, 0, 0, [])]
def BforOf_114 : List RI := [(.istore 4, 2, 0, 0, []), (.iload 4, 2, 0, 0, []), (.ifCond .eq 12, 3, 0, 130, [])]
def BforOf_121 : List RI := [(.aload_n 0, 1, 0, 0, []), (.invokevirtual 573, 3, 0, 27, []), (.ifCond .ne 5, 3, 0, 130, [])]
def BforOf_128 : List RI := [(.iconst 0, 1, 0, 0, []), (.ireturn, 1, 2, 0, [])]
def BforOf_130 : List RI := [(.aload_n 0, 1, 0, 0, []), (.bipush 33, 2, 0, 0, []), (.iload_n 3, 1, 0, 3, []), (.iload_n 1, 1, 0, 1, []), (.invokevirtual 436, 3, 3, 20, []), (.istore 5, 2, 0, 0, []), (.aload_n 0, 1, 0, 0, []), (.getfield 48, 3, 3, 21, []), (.iload 5, 2, 0, 0, []), (.iload 4, 2, 0, 0, []), (.ifCond .eq 7, 3, 0, 155, [])]
def BforOf_151 : List RI := [(.iconst 1, 1, 0, 0, []), (.goto 4, 3, 0, 156, [])]
def BforOf_155 : List RI := [(.iconst 0, 1, 0, 0, [])]
def BforOf_156 : List RI := [(.iastore, 1, 0, 0, []), (.aload_n 0, 1, 0, 0, []), (.getfield 114, 3, 3, 52, []), (.iload_n 3, 1, 0, 3, []), (.iload 5, 2, 0, 0, []), (.iastore, 1, 0, 0, []), (.aload_n 0, 1, 0, 0, []), (.bipush 59, 2, 0, 0, []), (.invokevirtual 492, 3, 1, 18, []), (.ifCond .ne 5, 3, 0, 176, [])]
def BforOf_174 : List RI := [(.iconst 0, 1, 0, 0, []), (.ireturn, 1, 2, 0, [])]
def BforOf_176 : List RI := [(.aload_n 0, 1, 0, 0, []), (.getfield 117, 3, 3, 53, []), (.iload_n 3, 1, 0, 3, []), (.aload_n 0, 1, 0, 0, []), (.bipush 34, 2, 0, 0, []), (.iload_n 3, 1, 0, 3, []), (.iload_n 1, 1, 0, 1, []), (.invokevirtual 436, 3, 3, 20, []), (.iastore, 1, 0, 0, []), (.aload_n 0, 1, 0, 0, []), (.bipush 41, 2, 0, 0, []), (.invokevirtual 420, 3, 1, 14, []), (.ifCond .ne 12, 3, 0, 208, [])]
def BforOf_199 : List RI := [(.aload_n 0, 1, 0, 0, []), (.invokevirtual 615, 3, 0, 56, []), (.ifCond .ne 5, 3, 0, 208, [])]
def BforOf_206 : List RI := [(.iconst 0, 1, 0, 0, []), (.ireturn, 1, 2, 0, [])]
def BforOf_208 : List RI := [(.aload_n 0, 1, 0, 0, []), (.bipush 41, 2, 0, 0, []), (.invokevirtual 492, 3, 1, 18, []), (.ifCond .ne 5, 3, 0, 219, [])]
def BforOf_217 : List RI := [(.iconst 0, 1, 0, 0, []), (.ireturn, 1, 2, 0, [])]
def BforOf_219 : List RI := [(.aload_n 0, 1, 0, 0, []), (.getfield 120, 3, 3, 54, []), (.iload_n 3, 1, 0, 3, []), (.aload_n 0, 1, 0, 0, []), (.bipush 35, 2, 0, 0, []), (.iload_n 3, 1, 0, 3, []), (.iload_n 1, 1, 0, 1, []), (.invokevirtual 436, 3, 3, 20, []), (.iastore, 1, 0, 0, []), (.aload_n 0, 1, 0, 0, []), (.bipush 6, 2, 0, 0, []), (.iload_n 3, 1, 0, 3, []), (.iload_n 2, 1, 0, 2, []), (.invokevirtual 532, 3, 3, 36, []), (.ireturn, 1, 2, 0, [])]
def BforOf : RB := [(0, BforOf_0), (29, BforOf_29), (38, BforOf_38), (40, BforOf_40), (47, BforOf_47), (55, BforOf_55), (57, BforOf_57), (66, BforOf_66), (73, BforOf_73), (75, BforOf_75), (84, BforOf_84), (86, BforOf_86), (109, BforOf_109), (113, BforOf_113), (114, BforOf_114), (121, BforOf_121), (128, BforOf_128), (130, BforOf_130), (151, BforOf_151), (155, BforOf_155), (156, BforOf_156), (174, BforOf_174), (176, BforOf_176), (199, BforOf_199), (206, BforOf_206), (208, BforOf_208), (217, BforOf_217), (219, BforOf_219)]
set_option maxRecDepth 100000 in
theorem okBforOf : rokM cX12_forOf 6 (some .boolean) BforOf = true := by sorry
def BswitchOf_0 : List RI := [(.aload_n 0, 1, 0, 0, []), (.getfield 413, 3, 0, 14, []), (.istore_n 1, 1, 0, 1, []), (.aload_n 0, 1, 0, 0, []), (.bipush 20, 2, 0, 0, []), (.iconst 0, 1, 0, 0, []), (.iload_n 1, 1, 0, 1, []), (.invokevirtual 436, 3, 3, 20, []), (.istore_n 2, 1, 0, 2, []), (.aload_n 0, 1, 0, 0, []), (.bipush 8, 2, 0, 0, []), (.iload_n 1, 1, 0, 1, []), (.invokevirtual 525, 3, 2, 35, []), (.istore_n 3, 1, 0, 3, []), (.aload_n 0, 1, 0, 0, []), (.invokevirtual 423, 3, 0, 17, []), (.ifCond .eq 10, 3, 0, 36, [])]
def BswitchOf_29 : List RI := [(.aload_n 0, 1, 0, 0, []), (.invokevirtual 612, 3, 0, 52, []), (.ifCond .ne 5, 3, 0, 38, [])]
def BswitchOf_36 : List RI := [(.iconst 0, 1, 0, 0, []), (.ireturn, 1, 2, 0, [])]
def BswitchOf_38 : List RI := [(.aload_n 0, 1, 0, 0, []), (.getfield 114, 3, 3, 52, []), (.iload_n 3, 1, 0, 3, []), (.aload_n 0, 1, 0, 0, []), (.bipush 37, 2, 0, 0, []), (.iload_n 3, 1, 0, 3, []), (.iload_n 1, 1, 0, 1, []), (.invokevirtual 436, 3, 3, 20, []), (.iastore, 1, 0, 0, []), (.aload_n 0, 1, 0, 0, []), (.bipush 123, 2, 0, 0, []), (.invokevirtual 492, 3, 1, 18, []), (.ifCond .eq 18, 3, 0, 76, [])]
def BswitchOf_61 : List RI := [(.aload_n 0, 1, 0, 0, []), (.bipush 8, 2, 0, 0, []), (.iload_n 3, 1, 0, 3, []), (.iload_n 2, 1, 0, 2, []), (.invokevirtual 532, 3, 3, 36, []), (.ifCond .eq 7, 3, 0, 76, [])]
def BswitchOf_72 : List RI := [(.iconst 1, 1, 0, 0, []), (.goto 4, 3, 0, 77, [])]
def BswitchOf_76 : List RI := [(.iconst 0, 1, 0, 0, [])]
def BswitchOf_77 : List RI := [(.ireturn, 1, 2, 0, [])]
def BswitchOf : RB := [(0, BswitchOf_0), (29, BswitchOf_29), (36, BswitchOf_36), (38, BswitchOf_38), (61, BswitchOf_61), (72, BswitchOf_72), (76, BswitchOf_76), (77, BswitchOf_77)]
set_option maxRecDepth 100000 in
theorem okBswitchOf : rokM cX12_switchOf 4 (some .boolean) BswitchOf = true := by sorry
def Blabel_0 : List RI := [(.aload_n 0, 1, 0, 0, []), (.getfield 147, 3, 3, 64, []), (.aload_n 0, 1, 0, 0, []), (.getfield 513, 3, 0, 62, []), (.iconst 1, 1, 0, 0, []), (.isub, 1, 0, 0, []), (.iaload, 1, 0, 0, []), (.istore_n 1, 1, 0, 1, []), (.aload_n 0, 1, 0, 0, []), (.getfield 413, 3, 0, 14, []), (.istore_n 2, 1, 0, 2, []), (.aload_n 0, 1, 0, 0, []), (.bipush 12, 2, 0, 0, []), (.invokevirtual 463, 3, 1, 15, []), (.istore_n 3, 1, 0, 3, []), (.aload_n 0, 1, 0, 0, []), (.invokevirtual 423, 3, 0, 17, []), (.ifCond .ne 5, 3, 0, 33, [])]
def Blabel_31 : List RI := [(.iconst 0, 1, 0, 0, []), (.ireturn, 1, 2, 0, [])]
def Blabel_33 : List RI := [(.iload_n 3, 1, 0, 3, []), (.ifCond .eq 36, 3, 0, 70, [])]
def Blabel_37 : List RI := [(.aload_n 0, 1, 0, 0, []), (.invokevirtual 573, 3, 0, 27, []), (.ifCond .ne 5, 3, 0, 46, [])]
def Blabel_44 : List RI := [(.iconst 0, 1, 0, 0, []), (.ireturn, 1, 2, 0, [])]
def Blabel_46 : List RI := [(.aload_n 0, 1, 0, 0, []), (.bipush 38, 2, 0, 0, []), (.iload_n 1, 1, 0, 1, []), (.iload_n 2, 1, 0, 2, []), (.invokevirtual 436, 3, 3, 20, []), (.istore 4, 2, 0, 0, []), (.aload_n 0, 1, 0, 0, []), (.getfield 48, 3, 3, 21, []), (.iload 4, 2, 0, 0, []), (.aload_n 0, 1, 0, 0, []), (.getfield 470, 3, 0, 33, []), (.iastore, 1, 0, 0, []), (.goto 12, 3, 0, 79, [])]
def Blabel_70 : List RI := [(.aload_n 0, 1, 0, 0, []), (.bipush 39, 2, 0, 0, []), (.iload_n 1, 1, 0, 1, []), (.iload_n 2, 1, 0, 2, []), (.invokevirtual 436, 3, 3, 20, []), (.pop, 1, 0, 0, [])]
def Blabel_79 : List RI := [(.aload_n 0, 1, 0, 0, []), (.bipush 58, 2, 0, 0, []), (.invokevirtual 492, 3, 1, 18, []), (.ireturn, 1, 2, 0, [])]
def Blabel : RB := [(0, Blabel_0), (31, Blabel_31), (33, Blabel_33), (37, Blabel_37), (44, Blabel_44), (46, Blabel_46), (70, Blabel_70), (79, Blabel_79)]
set_option maxRecDepth 100000 in
theorem okBlabel : rokM cX12_label 5 (some .boolean) Blabel = true := by sorry
def BcloseSwitch_0 : List RI := [(.aload_n 0, 1, 0, 0, []), (.getfield 147, 3, 3, 64, []), (.aload_n 0, 1, 0, 0, []), (.getfield 513, 3, 0, 62, []), (.iconst 1, 1, 0, 0, []), (.isub, 1, 0, 0, []), (.iaload, 1, 0, 0, []), (.istore_n 1, 1, 0, 1, []), (.aload_n 0, 1, 0, 0, []), (.getfield 150, 3, 3, 65, []), (.aload_n 0, 1, 0, 0, []), (.getfield 513, 3, 0, 62, []), (.iconst 1, 1, 0, 0, []), (.isub, 1, 0, 0, []), (.iaload, 1, 0, 0, []), (.istore_n 2, 1, 0, 2, []), (.aload_n 0, 1, 0, 0, []), (.iload_n 1, 1, 0, 1, []), (.aload_n 0, 1, 0, 0, []), (.getfield 413, 3, 0, 14, []), (.invokevirtual 618, 3, 2, 42, []), (.aload_n 0, 1, 0, 0, []), (.invokevirtual 423, 3, 0, 17, []), (.ifCond .ne 5, 3, 0, 42, [])]
def BcloseSwitch_40 : List RI := [(.iconst 0, 1, 0, 0, []), (.ireturn, 1, 2, 0, [])]
def BcloseSwitch_42 : List RI := [(.aload_n 0, 1, 0, 0, []), (.getfield 123, 3, 3, 55, []), (.iload_n 1, 1, 0, 1, []), (.aload_n 0, 1, 0, 0, []), (.bipush 40, 2, 0, 0, []), (.iload_n 1, 1, 0, 1, []), (.aload_n 0, 1, 0, 0, []), (.getfield 138, 3, 3, 60, []), (.iload_n 1, 1, 0, 1, []), (.iaload, 1, 0, 0, []), (.invokevirtual 436, 3, 3, 20, []), (.iastore, 1, 0, 0, []), (.aload_n 0, 1, 0, 0, []), (.iload_n 2, 1, 0, 2, []), (.invokevirtual 622, 3, 1, 61, []), (.ireturn, 1, 2, 0, [])]
def BcloseSwitch : RB := [(0, BcloseSwitch_0), (40, BcloseSwitch_40), (42, BcloseSwitch_42)]
set_option maxRecDepth 100000 in
theorem okBcloseSwitch : rokM cX12_closeSwitch 3 (some .boolean) BcloseSwitch = true := by sorry
def Bclosed_0 : List RI := [(.aload_n 0, 1, 0, 0, []), (.bipush 45, 2, 0, 0, []), (.iload_n 1, 1, 0, 1, []), (.aload_n 0, 1, 0, 0, []), (.getfield 51, 3, 3, 22, []), (.iload_n 1, 1, 0, 1, []), (.iaload, 1, 0, 0, []), (.invokevirtual 436, 3, 3, 20, []), (.pop, 1, 0, 0, []), (.aload_n 0, 1, 0, 0, []), (.dup, 1, 0, 0, []), (.getfield 513, 3, 0, 62, []), (.iconst 1, 1, 0, 0, []), (.isub, 1, 0, 0, []), (.putfield 513, 3, 0, 62, []), (.aload_n 0, 1, 0, 0, []), (.dup, 1, 0, 0, []), (.getfield 430, 3, 0, 17, []), (.iconst 1, 1, 0, 0, []), (.isub, 1, 0, 0, []), (.putfield 430, 3, 0, 17, []), (.aload_n 0, 1, 0, 0, []), (.invokevirtual 609, 3, 0, 69, []), (.ireturn, 1, 2, 0, [])]
def Bclosed : RB := [(0, Bclosed_0)]
set_option maxRecDepth 100000 in
theorem okBclosed : rokM cX12_closed 2 (some .boolean) Bclosed = true := by sorry
def Bjump_0 : List RI := [(.aload_n 0, 1, 0, 0, []), (.getfield 413, 3, 0, 14, []), (.istore_n 1, 1, 0, 1, []), (.aload_n 0, 1, 0, 0, []), (.bipush 15, 2, 0, 0, []), (.invokevirtual 463, 3, 1, 15, []), (.istore_n 2, 1, 0, 2, []), (.aload_n 0, 1, 0, 0, []), (.bipush 20, 2, 0, 0, []), (.iconst 0, 1, 0, 0, []), (.iload_n 1, 1, 0, 1, []), (.invokevirtual 436, 3, 3, 20, []), (.istore_n 3, 1, 0, 3, []), (.aload_n 0, 1, 0, 0, []), (.invokevirtual 423, 3, 0, 17, []), (.ifCond .ne 5, 3, 0, 30, [])]
def Bjump_28 : List RI := [(.iconst 0, 1, 0, 0, []), (.ireturn, 1, 2, 0, [])]
def Bjump_30 : List RI := [(.bipush (-2), 2, 0, 0, []), (.istore 4, 2, 0, 0, []), (.iload_n 1, 1, 0, 1, []), (.istore 5, 2, 0, 0, []), (.aload_n 0, 1, 0, 0, []), (.getfield 13, 3, 3, 3, []), (.aload_n 0, 1, 0, 0, []), (.getfield 413, 3, 0, 14, []), (.iaload, 1, 0, 0, []), (.iconst 1, 1, 0, 0, []), (.if_icmp .ne 29, 3, 0, 76, [])]
def Bjump_50 : List RI := [(.aload_n 0, 1, 0, 0, []), (.getfield 413, 3, 0, 14, []), (.istore 5, 2, 0, 0, []), (.aload_n 0, 1, 0, 0, []), (.aload_n 0, 1, 0, 0, []), (.getfield 413, 3, 0, 14, []), (.iload_n 2, 1, 0, 2, []), (.invokevirtual 625, 3, 2, 64, []), (.istore 4, 2, 0, 0, []), (.aload_n 0, 1, 0, 0, []), (.invokevirtual 423, 3, 0, 17, []), (.ifCond .ne 100, 3, 0, 171, [])]
def Bjump_74 : List RI := [(.iconst 0, 1, 0, 0, []), (.ireturn, 1, 2, 0, [])]
def Bjump_76 : List RI := [(.aload_n 0, 1, 0, 0, []), (.getfield 513, 3, 0, 62, []), (.iconst 1, 1, 0, 0, []), (.isub, 1, 0, 0, []), (.istore 6, 2, 0, 0, [])]
def Bjump_84 : List RI := [(.iload 6, 2, 0, 0, []), (.ifCond .lt 85, 3, 0, 171, [])]
def Bjump_89 : List RI := [(.iload 4, 2, 0, 0, []), (.ifCond .ge 80, 3, 0, 171, [])]
def Bjump_94 : List RI := [(.aload_n 0, 1, 0, 0, []), (.getfield 144, 3, 3, 63, []), (.iload 6, 2, 0, 0, []), (.iaload, 1, 0, 0, []), (.iconst 4, 1, 0, 0, []), (.if_icmp .eq 26, 3, 0, 128, [])]
def Bjump_105 : List RI := [(.aload_n 0, 1, 0, 0, []), (.getfield 144, 3, 3, 63, []), (.iload 6, 2, 0, 0, []), (.iaload, 1, 0, 0, []), (.iconst 5, 1, 0, 0, []), (.if_icmp .eq 15, 3, 0, 128, [])]
def Bjump_116 : List RI := [(.aload_n 0, 1, 0, 0, []), (.getfield 144, 3, 3, 63, []), (.iload 6, 2, 0, 0, []), (.iaload, 1, 0, 0, []), (.bipush 6, 2, 0, 0, []), (.if_icmp .ne 7, 3, 0, 132, [])]
def Bjump_128 : List RI := [(.iconst 1, 1, 0, 0, []), (.goto 4, 3, 0, 133, [])]
def Bjump_132 : List RI := [(.iconst 0, 1, 0, 0, [])]
def Bjump_133 : List RI := [(.istore 7, 2, 0, 0, []), (.iload 7, 2, 0, 0, []), (.ifCond .ne 19, 3, 0, 156, [])]
def Bjump_140 : List RI := [(.aload_n 0, 1, 0, 0, []), (.getfield 144, 3, 3, 63, []), (.iload 6, 2, 0, 0, []), (.iaload, 1, 0, 0, []), (.bipush 8, 2, 0, 0, []), (.if_icmp .ne 16, 3, 0, 165, [])]
def Bjump_152 : List RI := [(.iload_n 2, 1, 0, 2, []), (.ifCond .ne 12, 3, 0, 165, [])]
def Bjump_156 : List RI := [(.aload_n 0, 1, 0, 0, []), (.getfield 147, 3, 3, 64, []), (.iload 6, 2, 0, 0, []), (.iaload, 1, 0, 0, []), (.istore 4, 2, 0, 0, [])]
def Bjump_165 : List RI := [(.iinc 6 (-1), 3, 0, 0, []), (.goto (-84), 3, 0, 84, [])]
def Bjump_171 : List RI := [(.aload_n 0, 1, 0, 0, []), (.iload_n 2, 1, 0, 2, []), (.ifCond .eq 8, 3, 0, 181, [])]
def Bjump_176 : List RI := [(.bipush 47, 2, 0, 0, []), (.goto 5, 3, 0, 183, [])]
def Bjump_181 : List RI := [(.bipush 46, 2, 0, 0, [])]
def Bjump_183 : List RI := [(.iload 4, 2, 0, 0, []), (.iload 5, 2, 0, 0, []), (.invokevirtual 436, 3, 3, 20, []), (.istore 6, 2, 0, 0, []), (.aload_n 0, 1, 0, 0, []), (.bipush 59, 2, 0, 0, []), (.invokevirtual 492, 3, 1, 18, []), (.ifCond .ne 5, 3, 0, 203, [])]
def Bjump_201 : List RI := [(.iconst 0, 1, 0, 0, []), (.ireturn, 1, 2, 0, [])]
def Bjump_203 : List RI := [(.aload_n 0, 1, 0, 0, []), (.bipush 45, 2, 0, 0, []), (.iload_n 3, 1, 0, 3, []), (.iload_n 1, 1, 0, 1, []), (.invokevirtual 436, 3, 3, 20, []), (.pop, 1, 0, 0, []), (.aload_n 0, 1, 0, 0, []), (.invokevirtual 609, 3, 0, 69, []), (.ireturn, 1, 2, 0, [])]
def Bjump : RB := [(0, Bjump_0), (28, Bjump_28), (30, Bjump_30), (50, Bjump_50), (74, Bjump_74), (76, Bjump_76), (84, Bjump_84), (89, Bjump_89), (94, Bjump_94), (105, Bjump_105), (116, Bjump_116), (128, Bjump_128), (132, Bjump_132), (133, Bjump_133), (140, Bjump_140), (152, Bjump_152), (156, Bjump_156), (165, Bjump_165), (171, Bjump_171), (176, Bjump_176), (181, Bjump_181), (183, Bjump_183), (201, Bjump_201), (203, Bjump_203)]
set_option maxRecDepth 100000 in
theorem okBjump : rokM cX12_jump 8 (some .boolean) Bjump = true := by sorry
def BsameName_0 : List RI := [(.aload_n 0, 1, 0, 0, []), (.getfield 25, 3, 5, 7, []), (.iload_n 1, 1, 0, 1, []), (.laload, 1, 0, 0, []), (.aload_n 0, 1, 0, 0, []), (.getfield 25, 3, 5, 7, []), (.iload_n 2, 1, 0, 2, []), (.laload, 1, 0, 0, []), (.lcmp, 1, 0, 0, []), (.ifCond .ne 37, 3, 0, 50, [])]
def BsameName_16 : List RI := [(.aload_n 0, 1, 0, 0, []), (.getfield 29, 3, 3, 8, []), (.iload_n 1, 1, 0, 1, []), (.iaload, 1, 0, 0, []), (.aload_n 0, 1, 0, 0, []), (.getfield 29, 3, 3, 8, []), (.iload_n 2, 1, 0, 2, []), (.iaload, 1, 0, 0, []), (.if_icmp .ne 22, 3, 0, 50, [])]
def BsameName_31 : List RI := [(.aload_n 0, 1, 0, 0, []), (.getfield 19, 3, 3, 5, []), (.iload_n 1, 1, 0, 1, []), (.iaload, 1, 0, 0, []), (.aload_n 0, 1, 0, 0, []), (.getfield 19, 3, 3, 5, []), (.iload_n 2, 1, 0, 2, []), (.iaload, 1, 0, 0, []), (.if_icmp .ne 7, 3, 0, 50, [])]
def BsameName_46 : List RI := [(.iconst 1, 1, 0, 0, []), (.goto 4, 3, 0, 51, [])]
def BsameName_50 : List RI := [(.iconst 0, 1, 0, 0, [])]
def BsameName_51 : List RI := [(.ireturn, 1, 2, 0, [])]
def BsameName : RB := [(0, BsameName_0), (16, BsameName_16), (31, BsameName_31), (46, BsameName_46), (50, BsameName_50), (51, BsameName_51)]
set_option maxRecDepth 100000 in
theorem okBsameName : rokM cX12_sameName 3 (some .boolean) BsameName = true := by sorry
def Bnamed__0 : List RI := [(.aload_n 0, 1, 0, 0, []), (.getfield 513, 3, 0, 62, []), (.iconst 1, 1, 0, 0, []), (.isub, 1, 0, 0, []), (.istore_n 3, 1, 0, 3, [])]
def Bnamed__7 : List RI := [(.iload_n 3, 1, 0, 3, []), (.ifCond .lt 111, 3, 0, 119, [])]
def Bnamed__11 : List RI := [(.aload_n 0, 1, 0, 0, []), (.getfield 144, 3, 3, 63, []), (.iload_n 3, 1, 0, 3, []), (.iaload, 1, 0, 0, []), (.bipush 7, 2, 0, 0, []), (.if_icmp .ne 94, 3, 0, 113, [])]
def Bnamed__22 : List RI := [(.aload_n 0, 1, 0, 0, []), (.aload_n 0, 1, 0, 0, []), (.getfield 138, 3, 3, 60, []), (.aload_n 0, 1, 0, 0, []), (.getfield 147, 3, 3, 64, []), (.iload_n 3, 1, 0, 3, []), (.iaload, 1, 0, 0, []), (.iaload, 1, 0, 0, []), (.iload_n 1, 1, 0, 1, []), (.invokevirtual 628, 3, 2, 63, []), (.ifCond .ne 6, 3, 0, 44, [])]
def Bnamed__41 : List RI := [(.goto 72, 3, 0, 113, [])]
def Bnamed__44 : List RI := [(.iload_n 2, 1, 0, 2, []), (.ifCond .ne 10, 3, 0, 55, [])]
def Bnamed__48 : List RI := [(.aload_n 0, 1, 0, 0, []), (.getfield 147, 3, 3, 64, []), (.iload_n 3, 1, 0, 3, []), (.iaload, 1, 0, 0, []), (.ireturn, 1, 1, 0, [])]
def Bnamed__55 : List RI := [(.iload_n 3, 1, 0, 3, []), (.iconst 1, 1, 0, 0, []), (.iadd, 1, 0, 0, []), (.aload_n 0, 1, 0, 0, []), (.getfield 513, 3, 0, 62, []), (.if_icmp .ge 14, 3, 0, 76, [])]
def Bnamed__65 : List RI := [(.aload_n 0, 1, 0, 0, []), (.getfield 144, 3, 3, 63, []), (.iload_n 3, 1, 0, 3, []), (.iconst 1, 1, 0, 0, []), (.iadd, 1, 0, 0, []), (.iaload, 1, 0, 0, []), (.goto 5, 3, 0, 78, [])]
def Bnamed__76 : List RI := [(.bipush (-2), 2, 0, 0, [])]
def Bnamed__78 : List RI := [(.istore 4, 2, 0, 0, []), (.iload 4, 2, 0, 0, []), (.iconst 4, 1, 0, 0, []), (.if_icmp .eq 16, 3, 0, 99, [])]
def Bnamed__86 : List RI := [(.iload 4, 2, 0, 0, []), (.iconst 5, 1, 0, 0, []), (.if_icmp .eq 10, 3, 0, 99, [])]
def Bnamed__92 : List RI := [(.iload 4, 2, 0, 0, []), (.bipush 6, 2, 0, 0, []), (.if_icmp .ne 14, 3, 0, 110, [])]
def Bnamed__99 : List RI := [(.aload_n 0, 1, 0, 0, []), (.getfield 147, 3, 3, 64, []), (.iload_n 3, 1, 0, 3, []), (.iconst 1, 1, 0, 0, []), (.iadd, 1, 0, 0, []), (.iaload, 1, 0, 0, []), (.goto 5, 3, 0, 112, [])]
def Bnamed__110 : List RI := [(.bipush (-2), 2, 0, 0, [])]
def Bnamed__112 : List RI := [(.ireturn, 1, 1, 0, [])]
def Bnamed__113 : List RI := [(.iinc 3 (-1), 3, 0, 0, []), (.goto (-109), 3, 0, 7, [])]
def Bnamed__119 : List RI := [(.bipush (-2), 2, 0, 0, []), (.ireturn, 1, 1, 0, [])]
def Bnamed_ : RB := [(0, Bnamed__0), (7, Bnamed__7), (11, Bnamed__11), (22, Bnamed__22), (41, Bnamed__41), (44, Bnamed__44), (48, Bnamed__48), (55, Bnamed__55), (65, Bnamed__65), (76, Bnamed__76), (78, Bnamed__78), (86, Bnamed__86), (92, Bnamed__92), (99, Bnamed__99), (110, Bnamed__110), (112, Bnamed__112), (113, Bnamed__113), (119, Bnamed__119)]
set_option maxRecDepth 100000 in
theorem okBnamed_ : rokM cX12_named_ 5 (some .int) Bnamed_ = true := by sorry
def Bgives_0 : List RI := [(.aload_n 0, 1, 0, 0, []), (.getfield 413, 3, 0, 14, []), (.istore_n 1, 1, 0, 1, []), (.aload_n 0, 1, 0, 0, []), (.bipush 17, 2, 0, 0, []), (.invokevirtual 463, 3, 1, 15, []), (.istore_n 2, 1, 0, 2, []), (.aload_n 0, 1, 0, 0, []), (.bipush 20, 2, 0, 0, []), (.iconst 0, 1, 0, 0, []), (.iload_n 1, 1, 0, 1, []), (.invokevirtual 436, 3, 3, 20, []), (.istore_n 3, 1, 0, 3, []), (.aload_n 0, 1, 0, 0, []), (.invokevirtual 423, 3, 0, 17, []), (.ifCond .ne 5, 3, 0, 30, [])]
def Bgives_28 : List RI := [(.iconst 0, 1, 0, 0, []), (.ireturn, 1, 2, 0, [])]
def Bgives_30 : List RI := [(.iload_n 2, 1, 0, 2, []), (.ifCond .ne 12, 3, 0, 43, [])]
def Bgives_34 : List RI := [(.aload_n 0, 1, 0, 0, []), (.bipush 59, 2, 0, 0, []), (.invokevirtual 420, 3, 1, 14, []), (.ifCond .ne 7, 3, 0, 47, [])]
def Bgives_43 : List RI := [(.iconst 1, 1, 0, 0, []), (.goto 4, 3, 0, 48, [])]
def Bgives_47 : List RI := [(.iconst 0, 1, 0, 0, [])]
def Bgives_48 : List RI := [(.istore 4, 2, 0, 0, []), (.iload 4, 2, 0, 0, []), (.ifCond .eq 12, 3, 0, 64, [])]
def Bgives_55 : List RI := [(.aload_n 0, 1, 0, 0, []), (.invokevirtual 573, 3, 0, 27, []), (.ifCond .ne 5, 3, 0, 64, [])]
def Bgives_62 : List RI := [(.iconst 0, 1, 0, 0, []), (.ireturn, 1, 2, 0, [])]
def Bgives_64 : List RI := [(.aload_n 0, 1, 0, 0, []), (.iload_n 2, 1, 0, 2, []), (.ifCond .eq 8, 3, 0, 74, [])]
def Bgives_69 : List RI := [(.bipush 49, 2, 0, 0, []), (.goto 5, 3, 0, 76, [])]
def Bgives_74 : List RI := [(.bipush 48, 2, 0, 0, [])]
def Bgives_76 : List RI := [(.iload 4, 2, 0, 0, []), (.ifCond .eq 7, 3, 0, 85, [])]
def Bgives_81 : List RI := [(.iconst 1, 1, 0, 0, []), (.goto 4, 3, 0, 86, [])]
def Bgives_85 : List RI := [(.iconst 0, 1, 0, 0, [])]
def Bgives_86 : List RI := [(.iload_n 1, 1, 0, 1, []), (.invokevirtual 436, 3, 3, 20, []), (.istore 5, 2, 0, 0, []), (.aload_n 0, 1, 0, 0, []), (.getfield 48, 3, 3, 21, []), (.iload 5, 2, 0, 0, []), (.iload 4, 2, 0, 0, []), (.ifCond .eq 10, 3, 0, 110, [])]
def Bgives_103 : List RI := [(.aload_n 0, 1, 0, 0, []), (.getfield 470, 3, 0, 33, []), (.goto 5, 3, 0, 112, [])]
def Bgives_110 : List RI := [(.bipush (-2), 2, 0, 0, [])]
def Bgives_112 : List RI := [(.iastore, 1, 0, 0, []), (.aload_n 0, 1, 0, 0, []), (.bipush 59, 2, 0, 0, []), (.invokevirtual 492, 3, 1, 18, []), (.ifCond .ne 5, 3, 0, 124, [])]
def Bgives_122 : List RI := [(.iconst 0, 1, 0, 0, []), (.ireturn, 1, 2, 0, [])]
def Bgives_124 : List RI := [(.aload_n 0, 1, 0, 0, []), (.bipush 45, 2, 0, 0, []), (.iload_n 3, 1, 0, 3, []), (.iload_n 1, 1, 0, 1, []), (.invokevirtual 436, 3, 3, 20, []), (.pop, 1, 0, 0, []), (.aload_n 0, 1, 0, 0, []), (.invokevirtual 609, 3, 0, 69, []), (.ireturn, 1, 2, 0, [])]
def Bgives : RB := [(0, Bgives_0), (28, Bgives_28), (30, Bgives_30), (34, Bgives_34), (43, Bgives_43), (47, Bgives_47), (48, Bgives_48), (55, Bgives_55), (62, Bgives_62), (64, Bgives_64), (69, Bgives_69), (74, Bgives_74), (76, Bgives_76), (81, Bgives_81), (85, Bgives_85), (86, Bgives_86), (103, Bgives_103), (110, Bgives_110), (112, Bgives_112), (122, Bgives_122), (124, Bgives_124)]
set_option maxRecDepth 100000 in
theorem okBgives : rokM cX12_gives 6 (some .boolean) Bgives = true := by sorry
def BtryOf_0 : List RI := [(.aload_n 0, 1, 0, 0, []), (.getfield 413, 3, 0, 14, []), (.istore_n 1, 1, 0, 1, []), (.aload_n 0, 1, 0, 0, []), (.bipush 20, 2, 0, 0, []), (.iconst 0, 1, 0, 0, []), (.iload_n 1, 1, 0, 1, []), (.invokevirtual 436, 3, 3, 20, []), (.istore_n 2, 1, 0, 2, []), (.aload_n 0, 1, 0, 0, []), (.bipush 9, 2, 0, 0, []), (.iload_n 1, 1, 0, 1, []), (.invokevirtual 525, 3, 2, 35, []), (.istore_n 3, 1, 0, 3, []), (.aload_n 0, 1, 0, 0, []), (.invokevirtual 423, 3, 0, 17, []), (.ifCond .ne 5, 3, 0, 31, [])]
def BtryOf_29 : List RI := [(.iconst 0, 1, 0, 0, []), (.ireturn, 1, 2, 0, [])]
def BtryOf_31 : List RI := [(.aload_n 0, 1, 0, 0, []), (.bipush 50, 2, 0, 0, []), (.iload_n 3, 1, 0, 3, []), (.iload_n 1, 1, 0, 1, []), (.invokevirtual 436, 3, 3, 20, []), (.pop, 1, 0, 0, []), (.aload_n 0, 1, 0, 0, []), (.bipush 123, 2, 0, 0, []), (.invokevirtual 492, 3, 1, 18, []), (.ifCond .eq 18, 3, 0, 64, [])]
def BtryOf_49 : List RI := [(.aload_n 0, 1, 0, 0, []), (.bipush 9, 2, 0, 0, []), (.iload_n 3, 1, 0, 3, []), (.iload_n 2, 1, 0, 2, []), (.invokevirtual 532, 3, 3, 36, []), (.ifCond .eq 7, 3, 0, 64, [])]
def BtryOf_60 : List RI := [(.iconst 1, 1, 0, 0, []), (.goto 4, 3, 0, 65, [])]
def BtryOf_64 : List RI := [(.iconst 0, 1, 0, 0, [])]
def BtryOf_65 : List RI := [(.ireturn, 1, 2, 0, [])]
def BtryOf : RB := [(0, BtryOf_0), (29, BtryOf_29), (31, BtryOf_31), (49, BtryOf_49), (60, BtryOf_60), (64, BtryOf_64), (65, BtryOf_65)]
set_option maxRecDepth 100000 in
theorem okBtryOf : rokM cX12_tryOf 4 (some .boolean) BtryOf = true := by sorry
def BcloseRow_0 : List RI := [(.aload_n 0, 1, 0, 0, []), (.getfield 147, 3, 3, 64, []), (.aload_n 0, 1, 0, 0, []), (.getfield 513, 3, 0, 62, []), (.iconst 1, 1, 0, 0, []), (.isub, 1, 0, 0, []), (.iaload, 1, 0, 0, []), (.istore_n 2, 1, 0, 2, []), (.aload_n 0, 1, 0, 0, []), (.getfield 150, 3, 3, 65, []), (.aload_n 0, 1, 0, 0, []), (.getfield 513, 3, 0, 62, []), (.iconst 1, 1, 0, 0, []), (.isub, 1, 0, 0, []), (.iaload, 1, 0, 0, []), (.istore_n 3, 1, 0, 3, []), (.aload_n 0, 1, 0, 0, []), (.getfield 413, 3, 0, 14, []), (.istore 4, 2, 0, 0, []), (.aload_n 0, 1, 0, 0, []), (.iload_n 1, 1, 0, 1, []), (.bipush 9, 2, 0, 0, []), (.if_icmp .lt 18, 3, 0, 52, [])]
def BcloseRow_37 : List RI := [(.sipush 1000, 3, 0, 0, []), (.iconst 3, 1, 0, 0, []), (.iload_n 2, 1, 0, 2, []), (.imul, 1, 0, 0, []), (.iadd, 1, 0, 0, []), (.iload_n 1, 1, 0, 1, []), (.iadd, 1, 0, 0, []), (.bipush 9, 2, 0, 0, []), (.isub, 1, 0, 0, []), (.goto 4, 3, 0, 53, [])]
def BcloseRow_52 : List RI := [(.iload_n 2, 1, 0, 2, [])]
def BcloseRow_53 : List RI := [(.iload 4, 2, 0, 0, []), (.invokevirtual 618, 3, 2, 42, []), (.aload_n 0, 1, 0, 0, []), (.invokevirtual 423, 3, 0, 17, []), (.ifCond .ne 5, 3, 0, 67, [])]
def BcloseRow_65 : List RI := [(.iconst 0, 1, 0, 0, []), (.ireturn, 1, 2, 0, [])]
def BcloseRow_67 : List RI := [(.iload_n 1, 1, 0, 1, []), (.ifCond .ne 49, 3, 0, 117, [])]
def BcloseRow_71 : List RI := [(.aload_n 0, 1, 0, 0, []), (.bipush 54, 2, 0, 0, []), (.aload_n 0, 1, 0, 0, []), (.getfield 516, 3, 0, 36, []), (.iconst 1, 1, 0, 0, []), (.isub, 1, 0, 0, []), (.aload_n 0, 1, 0, 0, []), (.getfield 75, 3, 3, 37, []), (.aload_n 0, 1, 0, 0, []), (.getfield 516, 3, 0, 36, []), (.iconst 1, 1, 0, 0, []), (.isub, 1, 0, 0, []), (.iaload, 1, 0, 0, []), (.invokevirtual 436, 3, 3, 20, []), (.pop, 1, 0, 0, []), (.aload_n 0, 1, 0, 0, []), (.dup, 1, 0, 0, []), (.getfield 513, 3, 0, 62, []), (.iconst 1, 1, 0, 0, []), (.isub, 1, 0, 0, []), (.putfield 513, 3, 0, 62, []), (.aload_n 0, 1, 0, 0, []), (.dup, 1, 0, 0, []), (.getfield 430, 3, 0, 17, []), (.iconst 1, 1, 0, 0, []), (.isub, 1, 0, 0, []), (.putfield 430, 3, 0, 17, []), (.iconst 1, 1, 0, 0, []), (.ireturn, 1, 2, 0, [])]
def BcloseRow_117 : List RI := [(.iload_n 1, 1, 0, 1, []), (.iconst 1, 1, 0, 0, []), (.if_icmp .ne 9, 3, 0, 128, [])]
def BcloseRow_122 : List RI := [(.aload_n 0, 1, 0, 0, []), (.iload_n 3, 1, 0, 3, []), (.invokevirtual 622, 3, 1, 61, []), (.ireturn, 1, 2, 0, [])]
def BcloseRow_128 : List RI := [(.aload_n 0, 1, 0, 0, []), (.iload_n 1, 1, 0, 1, []), (.iload_n 2, 1, 0, 2, []), (.iload_n 3, 1, 0, 3, []), (.invokevirtual 631, 3, 3, 68, []), (.ireturn, 1, 2, 0, [])]
def BcloseRow : RB := [(0, BcloseRow_0), (37, BcloseRow_37), (52, BcloseRow_52), (53, BcloseRow_53), (65, BcloseRow_65), (67, BcloseRow_67), (71, BcloseRow_71), (117, BcloseRow_117), (122, BcloseRow_122), (128, BcloseRow_128)]
set_option maxRecDepth 100000 in
theorem okBcloseRow : rokM cX12_closeRow 5 (some .boolean) BcloseRow = true := by sorry
def BcloseTry_0 : List RI := [(.aload_n 0, 1, 0, 0, []), (.dup, 1, 0, 0, []), (.getfield 513, 3, 0, 62, []), (.iconst 1, 1, 0, 0, []), (.isub, 1, 0, 0, []), (.putfield 513, 3, 0, 62, []), (.aload_n 0, 1, 0, 0, []), (.dup, 1, 0, 0, []), (.getfield 430, 3, 0, 17, []), (.iconst 1, 1, 0, 0, []), (.isub, 1, 0, 0, []), (.putfield 430, 3, 0, 17, []), (.iload_n 1, 1, 0, 1, []), (.bipush 9, 2, 0, 0, []), (.if_icmp .ne 130, 3, 0, 153, [])]
def BcloseTry_26 : List RI := [(.aload_n 0, 1, 0, 0, []), (.bipush 19, 2, 0, 0, []), (.invokevirtual 463, 3, 1, 15, []), (.ifCond .eq 121, 3, 0, 153, [])]
def BcloseTry_35 : List RI := [(.aload_n 0, 1, 0, 0, []), (.getfield 129, 3, 3, 57, []), (.iload_n 2, 1, 0, 2, []), (.aload_n 0, 1, 0, 0, []), (.bipush 51, 2, 0, 0, []), (.iload_n 2, 1, 0, 2, []), (.aload_n 0, 1, 0, 0, []), (.getfield 413, 3, 0, 14, []), (.invokevirtual 436, 3, 3, 20, []), (.iastore, 1, 0, 0, []), (.aload_n 0, 1, 0, 0, []), (.invokevirtual 423, 3, 0, 17, []), (.ifCond .eq 12, 3, 0, 68, [])]
def BcloseTry_59 : List RI := [(.aload_n 0, 1, 0, 0, []), (.bipush 40, 2, 0, 0, []), (.invokevirtual 492, 3, 1, 18, []), (.ifCond .ne 5, 3, 0, 70, [])]
def BcloseTry_68 : List RI := [(.iconst 0, 1, 0, 0, []), (.ireturn, 1, 2, 0, [])]
def BcloseTry_70 : List RI := [(.aload_n 0, 1, 0, 0, []), (.getfield 13, 3, 3, 3, []), (.aload_n 0, 1, 0, 0, []), (.getfield 413, 3, 0, 14, []), (.iaload, 1, 0, 0, []), (.iconst 1, 1, 0, 0, []), (.if_icmp .eq 8, 3, 0, 88, [])]
def BcloseTry_83 : List RI := [(.aload_n 0, 1, 0, 0, []), (.invokevirtual 427, 3, 0, 13, []), (.ireturn, 1, 2, 0, [])]
def BcloseTry_88 : List RI := [(.aload_n 0, 1, 0, 0, []), (.getfield 141, 3, 3, 61, []), (.iload_n 2, 1, 0, 2, []), (.aload_n 0, 1, 0, 0, []), (.getfield 519, 3, 0, 42, []), (.iastore, 1, 0, 0, []), (.aload_n 0, 1, 0, 0, []), (.iconst 3, 1, 0, 0, []), (.iconst 0, 1, 0, 0, []), (.sipush 1000, 3, 0, 0, []), (.iconst 3, 1, 0, 0, []), (.iload_n 2, 1, 0, 2, []), (.imul, 1, 0, 0, []), (.iadd, 1, 0, 0, []), (.iconst 1, 1, 0, 0, []), (.iadd, 1, 0, 0, []), (.invokevirtual 538, 3, 3, 40, []), (.ifCond .eq 12, 3, 0, 125, [])]
def BcloseTry_116 : List RI := [(.aload_n 0, 1, 0, 0, []), (.bipush 41, 2, 0, 0, []), (.invokevirtual 492, 3, 1, 18, []), (.ifCond .ne 5, 3, 0, 127, [])]
def BcloseTry_125 : List RI := [(.iconst 0, 1, 0, 0, []), (.ireturn, 1, 2, 0, [])]
def BcloseTry_127 : List RI := [(.aload_n 0, 1, 0, 0, []), (.bipush 123, 2, 0, 0, []), (.invokevirtual 492, 3, 1, 18, []), (.ifCond .eq 18, 3, 0, 151, [])]
def BcloseTry_136 : List RI := [(.aload_n 0, 1, 0, 0, []), (.bipush 10, 2, 0, 0, []), (.iload_n 2, 1, 0, 2, []), (.iload_n 3, 1, 0, 3, []), (.invokevirtual 532, 3, 3, 36, []), (.ifCond .eq 7, 3, 0, 151, [])]
def BcloseTry_147 : List RI := [(.iconst 1, 1, 0, 0, []), (.goto 4, 3, 0, 152, [])]
def BcloseTry_151 : List RI := [(.iconst 0, 1, 0, 0, [])]
def BcloseTry_152 : List RI := [(.ireturn, 1, 2, 0, [])]
def BcloseTry_153 : List RI := [(.iload_n 1, 1, 0, 1, []), (.bipush 11, 2, 0, 0, []), (.if_icmp .eq 64, 3, 0, 220, [])]
def BcloseTry_159 : List RI := [(.aload_n 0, 1, 0, 0, []), (.bipush 20, 2, 0, 0, []), (.invokevirtual 463, 3, 1, 15, []), (.ifCond .eq 55, 3, 0, 220, [])]
def BcloseTry_168 : List RI := [(.aload_n 0, 1, 0, 0, []), (.getfield 132, 3, 3, 58, []), (.iload_n 2, 1, 0, 2, []), (.aload_n 0, 1, 0, 0, []), (.bipush 52, 2, 0, 0, []), (.iload_n 2, 1, 0, 2, []), (.aload_n 0, 1, 0, 0, []), (.getfield 413, 3, 0, 14, []), (.invokevirtual 436, 3, 3, 20, []), (.iastore, 1, 0, 0, []), (.aload_n 0, 1, 0, 0, []), (.invokevirtual 423, 3, 0, 17, []), (.ifCond .ne 5, 3, 0, 194, [])]
def BcloseTry_192 : List RI := [(.iconst 0, 1, 0, 0, []), (.ireturn, 1, 2, 0, [])]
def BcloseTry_194 : List RI := [(.aload_n 0, 1, 0, 0, []), (.bipush 123, 2, 0, 0, []), (.invokevirtual 492, 3, 1, 18, []), (.ifCond .eq 18, 3, 0, 218, [])]
def BcloseTry_203 : List RI := [(.aload_n 0, 1, 0, 0, []), (.bipush 11, 2, 0, 0, []), (.iload_n 2, 1, 0, 2, []), (.iload_n 3, 1, 0, 3, []), (.invokevirtual 532, 3, 3, 36, []), (.ifCond .eq 7, 3, 0, 218, [])]
def BcloseTry_214 : List RI := [(.iconst 1, 1, 0, 0, []), (.goto 4, 3, 0, 219, [])]
def BcloseTry_218 : List RI := [(.iconst 0, 1, 0, 0, [])]
def BcloseTry_219 : List RI := [(.ireturn, 1, 2, 0, [])]
def BcloseTry_220 : List RI := [(.iload_n 1, 1, 0, 1, []), (.bipush 9, 2, 0, 0, []), (.if_icmp .ne 8, 3, 0, 231, [])]
def BcloseTry_226 : List RI := [(.aload_n 0, 1, 0, 0, []), (.invokevirtual 427, 3, 0, 13, []), (.ireturn, 1, 2, 0, [])]
def BcloseTry_231 : List RI := [(.aload_n 0, 1, 0, 0, []), (.getfield 123, 3, 3, 55, []), (.iload_n 2, 1, 0, 2, []), (.aload_n 0, 1, 0, 0, []), (.bipush 53, 2, 0, 0, []), (.iload_n 2, 1, 0, 2, []), (.aload_n 0, 1, 0, 0, []), (.getfield 138, 3, 3, 60, []), (.iload_n 2, 1, 0, 2, []), (.iaload, 1, 0, 0, []), (.invokevirtual 436, 3, 3, 20, []), (.iastore, 1, 0, 0, []), (.aload_n 0, 1, 0, 0, []), (.bipush 45, 2, 0, 0, []), (.iload_n 3, 1, 0, 3, []), (.aload_n 0, 1, 0, 0, []), (.getfield 51, 3, 3, 22, []), (.iload_n 3, 1, 0, 3, []), (.iaload, 1, 0, 0, []), (.invokevirtual 436, 3, 3, 20, []), (.pop, 1, 0, 0, []), (.aload_n 0, 1, 0, 0, []), (.invokevirtual 609, 3, 0, 69, []), (.ireturn, 1, 2, 0, [])]
def BcloseTry : RB := [(0, BcloseTry_0), (26, BcloseTry_26), (35, BcloseTry_35), (59, BcloseTry_59), (68, BcloseTry_68), (70, BcloseTry_70), (83, BcloseTry_83), (88, BcloseTry_88), (116, BcloseTry_116), (125, BcloseTry_125), (127, BcloseTry_127), (136, BcloseTry_136), (147, BcloseTry_147), (151, BcloseTry_151), (152, BcloseTry_152), (153, BcloseTry_153), (159, BcloseTry_159), (168, BcloseTry_168), (192, BcloseTry_192), (194, BcloseTry_194), (203, BcloseTry_203), (214, BcloseTry_214), (218, BcloseTry_218), (219, BcloseTry_219), (220, BcloseTry_220), (226, BcloseTry_226), (231, BcloseTry_231)]
set_option maxRecDepth 100000 in
theorem okBcloseTry : rokM cX12_closeTry 4 (some .boolean) BcloseTry = true := by sorry
def Bfinished_0 : List RI := [(.aload_n 0, 1, 0, 0, []), (.getfield 513, 3, 0, 62, []), (.ifCond .le 7, 3, 0, 11, [])]
def Bfinished_7 : List RI := [(.iconst 1, 1, 0, 0, []), (.goto 4, 3, 0, 12, [])]
def Bfinished_11 : List RI := [(.iconst 0, 1, 0, 0, [])]
def Bfinished_12 : List RI := [(.istore_n 1, 1, 0, 1, [])]
def Bfinished_13 : List RI := [(.iload_n 1, 1, 0, 1, []), (.ifCond .eq 369, 3, 0, 383, [])]
def Bfinished_17 : List RI := [(.aload_n 0, 1, 0, 0, []), (.getfield 144, 3, 3, 63, []), (.aload_n 0, 1, 0, 0, []), (.getfield 513, 3, 0, 62, []), (.iconst 1, 1, 0, 0, []), (.isub, 1, 0, 0, []), (.iaload, 1, 0, 0, []), (.istore_n 2, 1, 0, 2, []), (.aload_n 0, 1, 0, 0, []), (.iload_n 2, 1, 0, 2, []), (.invokevirtual 542, 3, 1, 43, []), (.ifCond .ne 9, 3, 0, 43, [])]
def Bfinished_37 : List RI := [(.iload_n 2, 1, 0, 2, []), (.bipush 8, 2, 0, 0, []), (.if_icmp .ne 5, 3, 0, 45, [])]
def Bfinished_43 : List RI := [(.iconst 1, 1, 0, 0, []), (.ireturn, 1, 2, 0, [])]
def Bfinished_45 : List RI := [(.aload_n 0, 1, 0, 0, []), (.getfield 147, 3, 3, 64, []), (.aload_n 0, 1, 0, 0, []), (.getfield 513, 3, 0, 62, []), (.iconst 1, 1, 0, 0, []), (.isub, 1, 0, 0, []), (.iaload, 1, 0, 0, []), (.istore_n 3, 1, 0, 3, []), (.aload_n 0, 1, 0, 0, []), (.getfield 150, 3, 3, 65, []), (.aload_n 0, 1, 0, 0, []), (.getfield 513, 3, 0, 62, []), (.iconst 1, 1, 0, 0, []), (.isub, 1, 0, 0, []), (.iaload, 1, 0, 0, []), (.istore 4, 2, 0, 0, []), (.aload_n 0, 1, 0, 0, []), (.dup, 1, 0, 0, []), (.getfield 430, 3, 0, 17, []), (.iconst 1, 1, 0, 0, []), (.isub, 1, 0, 0, []), (.putfield 430, 3, 0, 17, []), (.iload_n 2, 1, 0, 2, []), (.iconst 2, 1, 0, 0, []), (.if_icmp .ne 55, 3, 0, 137, [])]
def Bfinished_85 : List RI := [(.aload_n 0, 1, 0, 0, []), (.bipush 7, 2, 0, 0, []), (.invokevirtual 463, 3, 1, 15, []), (.ifCond .eq 46, 3, 0, 137, [])]
def Bfinished_94 : List RI := [(.aload_n 0, 1, 0, 0, []), (.getfield 126, 3, 3, 56, []), (.iload_n 3, 1, 0, 3, []), (.aload_n 0, 1, 0, 0, []), (.bipush 24, 2, 0, 0, []), (.iload_n 3, 1, 0, 3, []), (.aload_n 0, 1, 0, 0, []), (.getfield 413, 3, 0, 14, []), (.invokevirtual 436, 3, 3, 20, []), (.iastore, 1, 0, 0, []), (.aload_n 0, 1, 0, 0, []), (.invokevirtual 423, 3, 0, 17, []), (.ifCond .ne 5, 3, 0, 120, [])]
def Bfinished_118 : List RI := [(.iconst 0, 1, 0, 0, []), (.ireturn, 1, 2, 0, [])]
def Bfinished_120 : List RI := [(.aload_n 0, 1, 0, 0, []), (.getfield 144, 3, 3, 63, []), (.aload_n 0, 1, 0, 0, []), (.getfield 513, 3, 0, 62, []), (.iconst 1, 1, 0, 0, []), (.isub, 1, 0, 0, []), (.iconst 3, 1, 0, 0, []), (.iastore, 1, 0, 0, []), (.aload_n 0, 1, 0, 0, []), (.invokevirtual 479, 3, 0, 19, []), (.ireturn, 1, 2, 0, [])]
def Bfinished_137 : List RI := [(.aload_n 0, 1, 0, 0, []), (.dup, 1, 0, 0, []), (.getfield 513, 3, 0, 62, []), (.iconst 1, 1, 0, 0, []), (.isub, 1, 0, 0, []), (.putfield 513, 3, 0, 62, []), (.iload_n 2, 1, 0, 2, []), (.iconst 2, 1, 0, 0, []), (.if_icmp .eq 8, 3, 0, 157, [])]
def Bfinished_152 : List RI := [(.iload_n 2, 1, 0, 2, []), (.iconst 3, 1, 0, 0, []), (.if_icmp .ne 25, 3, 0, 179, [])]
def Bfinished_157 : List RI := [(.aload_n 0, 1, 0, 0, []), (.getfield 123, 3, 3, 55, []), (.iload_n 3, 1, 0, 3, []), (.aload_n 0, 1, 0, 0, []), (.bipush 25, 2, 0, 0, []), (.iload_n 3, 1, 0, 3, []), (.aload_n 0, 1, 0, 0, []), (.getfield 138, 3, 3, 60, []), (.iload_n 3, 1, 0, 3, []), (.iaload, 1, 0, 0, []), (.invokevirtual 436, 3, 3, 20, []), (.iastore, 1, 0, 0, []), (.goto 175, 3, 0, 351, [])]
def Bfinished_179 : List RI := [(.iload_n 2, 1, 0, 2, []), (.iconst 4, 1, 0, 0, []), (.if_icmp .ne 25, 3, 0, 206, [])]
def Bfinished_184 : List RI := [(.aload_n 0, 1, 0, 0, []), (.getfield 123, 3, 3, 55, []), (.iload_n 3, 1, 0, 3, []), (.aload_n 0, 1, 0, 0, []), (.bipush 28, 2, 0, 0, []), (.iload_n 3, 1, 0, 3, []), (.aload_n 0, 1, 0, 0, []), (.getfield 138, 3, 3, 60, []), (.iload_n 3, 1, 0, 3, []), (.iaload, 1, 0, 0, []), (.invokevirtual 436, 3, 3, 20, []), (.iastore, 1, 0, 0, []), (.goto 148, 3, 0, 351, [])]
def Bfinished_206 : List RI := [(.iload_n 2, 1, 0, 2, []), (.iconst 5, 1, 0, 0, []), (.if_icmp .ne 85, 3, 0, 293, [])]
def Bfinished_211 : List RI := [(.aload_n 0, 1, 0, 0, []), (.bipush 8, 2, 0, 0, []), (.invokevirtual 463, 3, 1, 15, []), (.ifCond .ne 8, 3, 0, 225, [])]
def Bfinished_220 : List RI := [(.aload_n 0, 1, 0, 0, []), (.invokevirtual 427, 3, 0, 13, []), (.ireturn, 1, 2, 0, [])]
def Bfinished_225 : List RI := [(.aload_n 0, 1, 0, 0, []), (.invokevirtual 423, 3, 0, 17, []), (.ifCond .ne 5, 3, 0, 234, [])]
def Bfinished_232 : List RI := [(.iconst 0, 1, 0, 0, []), (.ireturn, 1, 2, 0, [])]
def Bfinished_234 : List RI := [(.aload_n 0, 1, 0, 0, []), (.getfield 114, 3, 3, 52, []), (.iload_n 3, 1, 0, 3, []), (.aload_n 0, 1, 0, 0, []), (.bipush 30, 2, 0, 0, []), (.iload_n 3, 1, 0, 3, []), (.aload_n 0, 1, 0, 0, []), (.getfield 138, 3, 3, 60, []), (.iload_n 3, 1, 0, 3, []), (.iaload, 1, 0, 0, []), (.invokevirtual 436, 3, 3, 20, []), (.iastore, 1, 0, 0, []), (.aload_n 0, 1, 0, 0, []), (.invokevirtual 612, 3, 0, 52, []), (.ifCond .eq 12, 3, 0, 269, [])]
def Bfinished_260 : List RI := [(.aload_n 0, 1, 0, 0, []), (.bipush 59, 2, 0, 0, []), (.invokevirtual 492, 3, 1, 18, []), (.ifCond .ne 5, 3, 0, 271, [])]
def Bfinished_269 : List RI := [(.iconst 0, 1, 0, 0, []), (.ireturn, 1, 2, 0, [])]
def Bfinished_271 : List RI := [(.aload_n 0, 1, 0, 0, []), (.getfield 123, 3, 3, 55, []), (.iload_n 3, 1, 0, 3, []), (.aload_n 0, 1, 0, 0, []), (.bipush 31, 2, 0, 0, []), (.iload_n 3, 1, 0, 3, []), (.aload_n 0, 1, 0, 0, []), (.getfield 138, 3, 3, 60, []), (.iload_n 3, 1, 0, 3, []), (.iaload, 1, 0, 0, []), (.invokevirtual 436, 3, 3, 20, []), (.iastore, 1, 0, 0, []), (.goto 61, 3, 0, 351, [])]
def Bfinished_293 : List RI := [(.iload_n 2, 1, 0, 2, []), (.bipush 6, 2, 0, 0, []), (.if_icmp .ne 36, 3, 0, 332, [])]
def Bfinished_299 : List RI := [(.aload_n 0, 1, 0, 0, []), (.iload_n 3, 1, 0, 3, []), (.aload_n 0, 1, 0, 0, []), (.getfield 413, 3, 0, 14, []), (.iconst 1, 1, 0, 0, []), (.isub, 1, 0, 0, []), (.invokevirtual 618, 3, 2, 42, []), (.aload_n 0, 1, 0, 0, []), (.getfield 123, 3, 3, 55, []), (.iload_n 3, 1, 0, 3, []), (.aload_n 0, 1, 0, 0, []), (.bipush 36, 2, 0, 0, []), (.iload_n 3, 1, 0, 3, []), (.aload_n 0, 1, 0, 0, []), (.getfield 138, 3, 3, 60, []), (.iload_n 3, 1, 0, 3, []), (.iaload, 1, 0, 0, []), (.invokevirtual 436, 3, 3, 20, []), (.iastore, 1, 0, 0, []), (.goto 22, 3, 0, 351, [])]
def Bfinished_332 : List RI := [(.aload_n 0, 1, 0, 0, []), (.getfield 123, 3, 3, 55, []), (.iload_n 3, 1, 0, 3, []), (.aload_n 0, 1, 0, 0, []), (.bipush 42, 2, 0, 0, []), (.iload_n 3, 1, 0, 3, []), (.aload_n 0, 1, 0, 0, []), (.getfield 138, 3, 3, 60, []), (.iload_n 3, 1, 0, 3, []), (.iaload, 1, 0, 0, []), (.invokevirtual 436, 3, 3, 20, []), (.iastore, 1, 0, 0, [])]
def Bfinished_351 : List RI := [(.aload_n 0, 1, 0, 0, []), (.bipush 45, 2, 0, 0, []), (.iload 4, 2, 0, 0, []), (.aload_n 0, 1, 0, 0, []), (.getfield 51, 3, 3, 22, []), (.iload 4, 2, 0, 0, []), (.iaload, 1, 0, 0, []), (.invokevirtual 436, 3, 3, 20, []), (.pop, 1, 0, 0, []), (.aload_n 0, 1, 0, 0, []), (.getfield 513, 3, 0, 62, []), (.ifCond .le 7, 3, 0, 378, [])]
def Bfinished_374 : List RI := [(.iconst 1, 1, 0, 0, []), (.goto 4, 3, 0, 379, [])]
def Bfinished_378 : List RI := [(.iconst 0, 1, 0, 0, [])]
def Bfinished_379 : List RI := [(.istore_n 1, 1, 0, 1, []), (.goto (-367), 3, 0, 13, [])]
def Bfinished_383 : List RI := [(.iconst 1, 1, 0, 0, []), (.ireturn, 1, 2, 0, [])]
def Bfinished : RB := [(0, Bfinished_0), (7, Bfinished_7), (11, Bfinished_11), (12, Bfinished_12), (13, Bfinished_13), (17, Bfinished_17), (37, Bfinished_37), (43, Bfinished_43), (45, Bfinished_45), (85, Bfinished_85), (94, Bfinished_94), (118, Bfinished_118), (120, Bfinished_120), (137, Bfinished_137), (152, Bfinished_152), (157, Bfinished_157), (179, Bfinished_179), (184, Bfinished_184), (206, Bfinished_206), (211, Bfinished_211), (220, Bfinished_220), (225, Bfinished_225), (232, Bfinished_232), (234, Bfinished_234), (260, Bfinished_260), (269, Bfinished_269), (271, Bfinished_271), (293, Bfinished_293), (299, Bfinished_299), (332, Bfinished_332), (351, Bfinished_351), (374, Bfinished_374), (378, Bfinished_378), (379, Bfinished_379), (383, Bfinished_383)]
set_option maxRecDepth 100000 in
theorem okBfinished : rokM cX12_finished 5 (some .boolean) Bfinished = true := by sorry
def Berr_0 : List RI := [(.aload_n 0, 1, 0, 0, []), (.getfield 16, 3, 3, 4, []), (.iload_n 2, 1, 0, 2, []), (.iaload, 1, 0, 0, []), (.istore_n 3, 1, 0, 3, []), (.aload_n 0, 1, 0, 0, []), (.getfield 634, 3, 0, 66, []), (.ifCond .eq 28, 3, 0, 39, [])]
def Berr_14 : List RI := [(.aload_n 0, 1, 0, 0, []), (.getfield 637, 3, 0, 67, []), (.iload_n 3, 1, 0, 3, []), (.if_icmp .lt 19, 3, 0, 38, [])]
def Berr_22 : List RI := [(.aload_n 0, 1, 0, 0, []), (.getfield 637, 3, 0, 67, []), (.iload_n 3, 1, 0, 3, []), (.if_icmp .ne 12, 3, 0, 39, [])]
def Berr_30 : List RI := [(.aload_n 0, 1, 0, 0, []), (.getfield 634, 3, 0, 66, []), (.iload_n 1, 1, 0, 1, []), (.if_icmp .gt 4, 3, 0, 39, [])]
def Berr_38 : List RI := [(.return_, 1, 0, 0, [])]
def Berr_39 : List RI := [(.aload_n 0, 1, 0, 0, []), (.iload_n 1, 1, 0, 1, []), (.putfield 634, 3, 0, 66, []), (.aload_n 0, 1, 0, 0, []), (.iload_n 3, 1, 0, 3, []), (.putfield 637, 3, 0, 67, []), (.return_, 1, 0, 0, [])]
def Berr : RB := [(0, Berr_0), (14, Berr_14), (22, Berr_22), (30, Berr_30), (38, Berr_38), (39, Berr_39)]
set_option maxRecDepth 100000 in
theorem okBerr : rokM cX12_err 4 none Berr = true := by sorry
def Bfind_0 : List RI := [(.aload_n 0, 1, 0, 0, []), (.getfield 519, 3, 0, 42, []), (.iconst 1, 1, 0, 0, []), (.isub, 1, 0, 0, []), (.istore_n 2, 1, 0, 2, [])]
def Bfind_7 : List RI := [(.iload_n 2, 1, 0, 2, []), (.ifCond .lt 58, 3, 0, 66, [])]
def Bfind_11 : List RI := [(.aload_n 0, 1, 0, 0, []), (.getfield 99, 3, 3, 46, []), (.iload_n 2, 1, 0, 2, []), (.iaload, 1, 0, 0, []), (.aload_n 0, 1, 0, 0, []), (.getfield 640, 3, 0, 89, []), (.if_icmp .ne 39, 3, 0, 60, [])]
def Bfind_24 : List RI := [(.aload_n 0, 1, 0, 0, []), (.getfield 90, 3, 3, 43, []), (.iload_n 2, 1, 0, 2, []), (.iaload, 1, 0, 0, []), (.iload_n 1, 1, 0, 1, []), (.if_icmp .ge 29, 3, 0, 60, [])]
def Bfind_34 : List RI := [(.iload_n 1, 1, 0, 1, []), (.aload_n 0, 1, 0, 0, []), (.getfield 105, 3, 3, 48, []), (.iload_n 2, 1, 0, 2, []), (.iaload, 1, 0, 0, []), (.if_icmp .gt 19, 3, 0, 60, [])]
def Bfind_44 : List RI := [(.aload_n 0, 1, 0, 0, []), (.aload_n 0, 1, 0, 0, []), (.getfield 90, 3, 3, 43, []), (.iload_n 2, 1, 0, 2, []), (.iaload, 1, 0, 0, []), (.iload_n 1, 1, 0, 1, []), (.invokevirtual 628, 3, 2, 63, []), (.ifCond .eq 5, 3, 0, 60, [])]
def Bfind_58 : List RI := [(.iload_n 2, 1, 0, 2, []), (.ireturn, 1, 1, 0, [])]
def Bfind_60 : List RI := [(.iinc 2 (-1), 3, 0, 0, []), (.goto (-56), 3, 0, 7, [])]
def Bfind_66 : List RI := [(.bipush (-2), 2, 0, 0, []), (.ireturn, 1, 1, 0, [])]
def Bfind : RB := [(0, Bfind_0), (7, Bfind_7), (11, Bfind_11), (24, Bfind_24), (34, Bfind_34), (44, Bfind_44), (58, Bfind_58), (60, Bfind_60), (66, Bfind_66)]
set_option maxRecDepth 100000 in
theorem okBfind : rokM cX12_find 3 (some .int) Bfind = true := by sorry
def BisNumber_0 : List RI := [(.iload_n 1, 1, 0, 1, []), (.iconst 1, 1, 0, 0, []), (.if_icmp .lt 12, 3, 0, 14, [])]
def BisNumber_5 : List RI := [(.iload_n 1, 1, 0, 1, []), (.iconst 4, 1, 0, 0, []), (.if_icmp .gt 7, 3, 0, 14, [])]
def BisNumber_10 : List RI := [(.iconst 1, 1, 0, 0, []), (.goto 4, 3, 0, 15, [])]
def BisNumber_14 : List RI := [(.iconst 0, 1, 0, 0, [])]
def BisNumber_15 : List RI := [(.ireturn, 1, 2, 0, [])]
def BisNumber : RB := [(0, BisNumber_0), (5, BisNumber_5), (10, BisNumber_10), (14, BisNumber_14), (15, BisNumber_15)]
set_option maxRecDepth 100000 in
theorem okBisNumber : rokM cX12_isNumber 2 (some .boolean) BisNumber = true := by sorry
def Bwidens_0 : List RI := [(.iload_n 1, 1, 0, 1, []), (.iload_n 2, 1, 0, 2, []), (.if_icmp .ne 5, 3, 0, 7, [])]
def Bwidens_5 : List RI := [(.iconst 1, 1, 0, 0, []), (.ireturn, 1, 2, 0, [])]
def Bwidens_7 : List RI := [(.iload_n 2, 1, 0, 2, []), (.iconst 3, 1, 0, 0, []), (.if_icmp .ne 13, 3, 0, 22, [])]
def Bwidens_12 : List RI := [(.iload_n 1, 1, 0, 1, []), (.iconst 1, 1, 0, 0, []), (.if_icmp .eq 23, 3, 0, 37, [])]
def Bwidens_17 : List RI := [(.iload_n 1, 1, 0, 1, []), (.iconst 2, 1, 0, 0, []), (.if_icmp .eq 18, 3, 0, 37, [])]
def Bwidens_22 : List RI := [(.iload_n 2, 1, 0, 2, []), (.iconst 4, 1, 0, 0, []), (.if_icmp .ne 17, 3, 0, 41, [])]
def Bwidens_27 : List RI := [(.iload_n 1, 1, 0, 1, []), (.iconst 1, 1, 0, 0, []), (.if_icmp .lt 12, 3, 0, 41, [])]
def Bwidens_32 : List RI := [(.iload_n 1, 1, 0, 1, []), (.iconst 3, 1, 0, 0, []), (.if_icmp .gt 7, 3, 0, 41, [])]
def Bwidens_37 : List RI := [(.iconst 1, 1, 0, 0, []), (.goto 4, 3, 0, 42, [])]
def Bwidens_41 : List RI := [(.iconst 0, 1, 0, 0, [])]
def Bwidens_42 : List RI := [(.ireturn, 1, 2, 0, [])]
def Bwidens : RB := [(0, Bwidens_0), (5, Bwidens_5), (7, Bwidens_7), (12, Bwidens_12), (17, Bwidens_17), (22, Bwidens_22), (27, Bwidens_27), (32, Bwidens_32), (37, Bwidens_37), (41, Bwidens_41), (42, Bwidens_42)]
set_option maxRecDepth 100000 in
theorem okBwidens : rokM cX12_widens 3 (some .boolean) Bwidens = true := by sorry
def BholdsValue_0 : List RI := [(.iload_n 1, 1, 0, 1, []), (.iconst 1, 1, 0, 0, []), (.if_icmp .ne 27, 3, 0, 29, [])]
def BholdsValue_5 : List RI := [(.lload_n 2, 1, 0, 2, []), (.ldc2_w 643, 3, (-128), 0, []), (.lcmp, 1, 0, 0, []), (.ifCond .lt 15, 3, 0, 25, [])]
def BholdsValue_13 : List RI := [(.lload_n 2, 1, 0, 2, []), (.ldc2_w 645, 3, 127, 0, []), (.lcmp, 1, 0, 0, []), (.ifCond .gt 7, 3, 0, 25, [])]
def BholdsValue_21 : List RI := [(.iconst 1, 1, 0, 0, []), (.goto 35, 3, 0, 57, [])]
def BholdsValue_25 : List RI := [(.iconst 0, 1, 0, 0, []), (.goto 31, 3, 0, 57, [])]
def BholdsValue_29 : List RI := [(.iload_n 1, 1, 0, 1, []), (.iconst 2, 1, 0, 0, []), (.if_icmp .ne 25, 3, 0, 56, [])]
def BholdsValue_34 : List RI := [(.lload_n 2, 1, 0, 2, []), (.lconst 0, 1, 0, 0, []), (.lcmp, 1, 0, 0, []), (.ifCond .lt 15, 3, 0, 52, [])]
def BholdsValue_40 : List RI := [(.lload_n 2, 1, 0, 2, []), (.ldc2_w 647, 3, 65535, 0, []), (.lcmp, 1, 0, 0, []), (.ifCond .gt 7, 3, 0, 52, [])]
def BholdsValue_48 : List RI := [(.iconst 1, 1, 0, 0, []), (.goto 8, 3, 0, 57, [])]
def BholdsValue_52 : List RI := [(.iconst 0, 1, 0, 0, []), (.goto 4, 3, 0, 57, [])]
def BholdsValue_56 : List RI := [(.iconst 1, 1, 0, 0, [])]
def BholdsValue_57 : List RI := [(.ireturn, 1, 2, 0, [])]
def BholdsValue : RB := [(0, BholdsValue_0), (5, BholdsValue_5), (13, BholdsValue_13), (21, BholdsValue_21), (25, BholdsValue_25), (29, BholdsValue_29), (34, BholdsValue_34), (40, BholdsValue_40), (48, BholdsValue_48), (52, BholdsValue_52), (56, BholdsValue_56), (57, BholdsValue_57)]
set_option maxRecDepth 100000 in
theorem okBholdsValue : rokM cX12_holdsValue 4 (some .boolean) BholdsValue = true := by sorry
def Bfits_0 : List RI := [(.aload_n 0, 1, 0, 0, []), (.getfield 153, 3, 3, 70, []), (.iload_n 1, 1, 0, 1, []), (.iaload, 1, 0, 0, []), (.iconst 5, 1, 0, 0, []), (.if_icmp .ne 5, 3, 0, 12, [])]
def Bfits_10 : List RI := [(.iconst 0, 1, 0, 0, []), (.ireturn, 1, 2, 0, [])]
def Bfits_12 : List RI := [(.aload_n 0, 1, 0, 0, []), (.aload_n 0, 1, 0, 0, []), (.getfield 153, 3, 3, 70, []), (.iload_n 1, 1, 0, 1, []), (.iaload, 1, 0, 0, []), (.iload_n 2, 1, 0, 2, []), (.invokevirtual 649, 3, 2, 73, []), (.ifCond .eq 5, 3, 0, 28, [])]
def Bfits_26 : List RI := [(.iconst 1, 1, 0, 0, []), (.ireturn, 1, 2, 0, [])]
def Bfits_28 : List RI := [(.aload_n 0, 1, 0, 0, []), (.getfield 153, 3, 3, 70, []), (.iload_n 1, 1, 0, 1, []), (.iaload, 1, 0, 0, []), (.iconst 1, 1, 0, 0, []), (.if_icmp .lt 27, 3, 0, 62, [])]
def Bfits_38 : List RI := [(.aload_n 0, 1, 0, 0, []), (.getfield 153, 3, 3, 70, []), (.iload_n 1, 1, 0, 1, []), (.iaload, 1, 0, 0, []), (.iconst 3, 1, 0, 0, []), (.if_icmp .gt 17, 3, 0, 62, [])]
def Bfits_48 : List RI := [(.iload_n 2, 1, 0, 2, []), (.iconst 1, 1, 0, 0, []), (.if_icmp .eq 8, 3, 0, 58, [])]
def Bfits_53 : List RI := [(.iload_n 2, 1, 0, 2, []), (.iconst 2, 1, 0, 0, []), (.if_icmp .ne 7, 3, 0, 62, [])]
def Bfits_58 : List RI := [(.iconst 1, 1, 0, 0, []), (.goto 4, 3, 0, 63, [])]
def Bfits_62 : List RI := [(.iconst 0, 1, 0, 0, [])]
def Bfits_63 : List RI := [(.istore_n 3, 1, 0, 3, []), (.iload_n 3, 1, 0, 3, []), (.ifCond .eq 30, 3, 0, 95, [])]
def Bfits_68 : List RI := [(.aload_n 0, 1, 0, 0, []), (.getfield 156, 3, 4, 71, []), (.iload_n 1, 1, 0, 1, []), (.baload, 1, 0, 0, []), (.ifCond .eq 21, 3, 0, 95, [])]
def Bfits_77 : List RI := [(.aload_n 0, 1, 0, 0, []), (.iload_n 2, 1, 0, 2, []), (.aload_n 0, 1, 0, 0, []), (.getfield 159, 3, 5, 72, []), (.iload_n 1, 1, 0, 1, []), (.laload, 1, 0, 0, []), (.invokevirtual 652, 3, 2, 74, []), (.ifCond .eq 7, 3, 0, 95, [])]
def Bfits_91 : List RI := [(.iconst 1, 1, 0, 0, []), (.goto 4, 3, 0, 96, [])]
def Bfits_95 : List RI := [(.iconst 0, 1, 0, 0, [])]
def Bfits_96 : List RI := [(.ireturn, 1, 2, 0, [])]
def Bfits : RB := [(0, Bfits_0), (10, Bfits_10), (12, Bfits_12), (26, Bfits_26), (28, Bfits_28), (38, Bfits_38), (48, Bfits_48), (53, Bfits_53), (58, Bfits_58), (62, Bfits_62), (63, Bfits_63), (68, Bfits_68), (77, Bfits_77), (91, Bfits_91), (95, Bfits_95), (96, Bfits_96)]
set_option maxRecDepth 100000 in
theorem okBfits : rokM cX12_fits 4 (some .boolean) Bfits = true := by sorry
def Bcast_0 : List RI := [(.iload_n 1, 1, 0, 1, []), (.tableswitch 57 0 3 #[31, 43, 48, 53], 31, 0, 58, [(0, 32), (1, 44), (2, 49), (3, 54)])]
def Bcast_32 : List RI := [(.lload_n 2, 1, 0, 2, []), (.lconst 0, 1, 0, 0, []), (.lcmp, 1, 0, 0, []), (.ifCond .eq 7, 3, 0, 42, [])]
def Bcast_38 : List RI := [(.lconst 1, 1, 0, 0, []), (.goto 4, 3, 0, 43, [])]
def Bcast_42 : List RI := [(.lconst 0, 1, 0, 0, [])]
def Bcast_43 : List RI := [(.lreturn, 1, 0, 0, [])]
def Bcast_44 : List RI := [(.lload_n 2, 1, 0, 2, []), (.l2i, 1, 0, 0, []), (.i2b, 1, 0, 0, []), (.i2l, 1, 0, 0, []), (.lreturn, 1, 0, 0, [])]
def Bcast_49 : List RI := [(.lload_n 2, 1, 0, 2, []), (.l2i, 1, 0, 0, []), (.i2c, 1, 0, 0, []), (.i2l, 1, 0, 0, []), (.lreturn, 1, 0, 0, [])]
def Bcast_54 : List RI := [(.lload_n 2, 1, 0, 2, []), (.l2i, 1, 0, 0, []), (.i2l, 1, 0, 0, []), (.lreturn, 1, 0, 0, [])]
def Bcast_58 : List RI := [(.lload_n 2, 1, 0, 2, []), (.lreturn, 1, 0, 0, [])]
def Bcast : RB := [(0, Bcast_0), (32, Bcast_32), (38, Bcast_38), (42, Bcast_42), (43, Bcast_43), (44, Bcast_44), (49, Bcast_49), (54, Bcast_54), (58, Bcast_58)]
set_option maxRecDepth 100000 in
theorem swcast_1 : decode cX12_cast 1 = .ok (.tableswitch 57 0 3 #[31, 43, 48, 53], 31) := by sorry
set_option maxRecDepth 100000 in
theorem okBcast : rokM cX12_cast 4 (some .long) Bcast = true := by sorry
def Blie_0 : List RI := [(.aload_n 0, 1, 0, 0, []), (.getfield 153, 3, 3, 70, []), (.aload_n 0, 1, 0, 0, []), (.getfield 656, 3, 0, 69, []), (.iload_n 2, 1, 0, 2, []), (.iastore, 1, 0, 0, []), (.aload_n 0, 1, 0, 0, []), (.getfield 156, 3, 4, 71, []), (.aload_n 0, 1, 0, 0, []), (.getfield 656, 3, 0, 69, []), (.iload_n 3, 1, 0, 3, []), (.bastore, 1, 0, 0, []), (.aload_n 0, 1, 0, 0, []), (.getfield 159, 3, 5, 72, []), (.aload_n 0, 1, 0, 0, []), (.getfield 656, 3, 0, 69, []), (.lload 4, 2, 0, 0, []), (.lastore, 1, 0, 0, []), (.aload_n 0, 1, 0, 0, []), (.getfield 162, 3, 3, 73, []), (.aload_n 0, 1, 0, 0, []), (.getfield 656, 3, 0, 69, []), (.aload_n 0, 1, 0, 0, []), (.getfield 54, 3, 3, 23, []), (.iload_n 1, 1, 0, 1, []), (.iaload, 1, 0, 0, []), (.iastore, 1, 0, 0, []), (.aload_n 0, 1, 0, 0, []), (.dup, 1, 0, 0, []), (.getfield 656, 3, 0, 69, []), (.iconst 1, 1, 0, 0, []), (.iadd, 1, 0, 0, []), (.putfield 656, 3, 0, 69, []), (.aload_n 0, 1, 0, 0, []), (.getfield 183, 3, 3, 81, []), (.iload_n 1, 1, 0, 1, []), (.iload_n 2, 1, 0, 2, []), (.iastore, 1, 0, 0, []), (.aload_n 0, 1, 0, 0, []), (.getfield 192, 3, 4, 84, []), (.iload_n 1, 1, 0, 1, []), (.iload_n 3, 1, 0, 3, []), (.bastore, 1, 0, 0, []), (.aload_n 0, 1, 0, 0, []), (.getfield 195, 3, 5, 85, []), (.iload_n 1, 1, 0, 1, []), (.lload 4, 2, 0, 0, []), (.lastore, 1, 0, 0, []), (.aload_n 0, 1, 0, 0, []), (.getfield 165, 3, 3, 75, []), (.aload_n 0, 1, 0, 0, []), (.getfield 659, 3, 0, 74, []), (.aload_n 0, 1, 0, 0, []), (.getfield 54, 3, 3, 23, []), (.iload_n 1, 1, 0, 1, []), (.iaload, 1, 0, 0, []), (.iastore, 1, 0, 0, []), (.aload_n 0, 1, 0, 0, []), (.getfield 168, 3, 3, 76, []), (.aload_n 0, 1, 0, 0, []), (.getfield 659, 3, 0, 74, []), (.aload_n 0, 1, 0, 0, []), (.getfield 57, 3, 3, 24, []), (.iload_n 1, 1, 0, 1, []), (.iaload, 1, 0, 0, []), (.iastore, 1, 0, 0, []), (.aload_n 0, 1, 0, 0, []), (.getfield 171, 3, 3, 77, []), (.aload_n 0, 1, 0, 0, []), (.getfield 659, 3, 0, 74, []), (.iload_n 2, 1, 0, 2, []), (.iastore, 1, 0, 0, []), (.aload_n 0, 1, 0, 0, []), (.getfield 174, 3, 4, 78, []), (.aload_n 0, 1, 0, 0, []), (.getfield 659, 3, 0, 74, []), (.iload_n 3, 1, 0, 3, []), (.bastore, 1, 0, 0, []), (.aload_n 0, 1, 0, 0, []), (.getfield 177, 3, 5, 79, []), (.aload_n 0, 1, 0, 0, []), (.getfield 659, 3, 0, 74, []), (.lload 4, 2, 0, 0, []), (.lastore, 1, 0, 0, []), (.aload_n 0, 1, 0, 0, []), (.dup, 1, 0, 0, []), (.getfield 659, 3, 0, 74, []), (.iconst 1, 1, 0, 0, []), (.iadd, 1, 0, 0, []), (.putfield 659, 3, 0, 74, []), (.return_, 1, 0, 0, [])]
def Blie : RB := [(0, Blie_0)]
set_option maxRecDepth 100000 in
theorem okBlie : rokM cX12_lie 6 none Blie = true := by sorry
def Bnone_0 : List RI := [(.aload_n 0, 1, 0, 0, []), (.iload_n 1, 1, 0, 1, []), (.bipush (-2), 2, 0, 0, []), (.iconst 0, 1, 0, 0, []), (.lconst 0, 1, 0, 0, []), (.invokevirtual 662, 3, 4, 77, []), (.return_, 1, 0, 0, [])]
def Bnone : RB := [(0, Bnone_0)]
set_option maxRecDepth 100000 in
theorem okBnone : rokM cX12_none 2 none Bnone = true := by sorry
def BisBad_0 : List RI := [(.aload_n 0, 1, 0, 0, []), (.getfield 153, 3, 3, 70, []), (.iload_n 1, 1, 0, 1, []), (.iaload, 1, 0, 0, []), (.bipush (-2), 2, 0, 0, []), (.if_icmp .ne 7, 3, 0, 15, [])]
def BisBad_11 : List RI := [(.iconst 1, 1, 0, 0, []), (.goto 4, 3, 0, 16, [])]
def BisBad_15 : List RI := [(.iconst 0, 1, 0, 0, [])]
def BisBad_16 : List RI := [(.ireturn, 1, 2, 0, [])]
def BisBad : RB := [(0, BisBad_0), (11, BisBad_11), (15, BisBad_15), (16, BisBad_16)]
set_option maxRecDepth 100000 in
theorem okBisBad : rokM cX12_isBad 2 (some .boolean) BisBad = true := by sorry
def Bneed_0 : List RI := [(.aload_n 0, 1, 0, 0, []), (.iload_n 1, 1, 0, 1, []), (.invokevirtual 666, 3, 1, 79, []), (.ifCond .eq 5, 3, 0, 10, [])]
def Bneed_8 : List RI := [(.iconst 0, 1, 0, 0, []), (.ireturn, 1, 2, 0, [])]
def Bneed_10 : List RI := [(.iload_n 2, 1, 0, 2, []), (.ifCond .ne 15, 3, 0, 26, [])]
def Bneed_14 : List RI := [(.aload_n 0, 1, 0, 0, []), (.getfield 153, 3, 3, 70, []), (.iload_n 1, 1, 0, 1, []), (.iaload, 1, 0, 0, []), (.ifCond .ne 21, 3, 0, 41, [])]
def Bneed_23 : List RI := [(.goto 16, 3, 0, 39, [])]
def Bneed_26 : List RI := [(.aload_n 0, 1, 0, 0, []), (.aload_n 0, 1, 0, 0, []), (.getfield 153, 3, 3, 70, []), (.iload_n 1, 1, 0, 1, []), (.iaload, 1, 0, 0, []), (.invokevirtual 669, 3, 1, 72, []), (.ifCond .eq 5, 3, 0, 41, [])]
def Bneed_39 : List RI := [(.iconst 1, 1, 0, 0, []), (.ireturn, 1, 2, 0, [])]
def Bneed_41 : List RI := [(.aload_n 0, 1, 0, 0, []), (.iconst 5, 1, 0, 0, []), (.aload_n 0, 1, 0, 0, []), (.getfield 162, 3, 3, 73, []), (.iload_n 1, 1, 0, 1, []), (.iaload, 1, 0, 0, []), (.invokevirtual 672, 3, 2, 70, []), (.iconst 0, 1, 0, 0, []), (.ireturn, 1, 2, 0, [])]
def Bneed : RB := [(0, Bneed_0), (8, Bneed_8), (10, Bneed_10), (14, Bneed_14), (23, Bneed_23), (26, Bneed_26), (39, Bneed_39), (41, Bneed_41)]
set_option maxRecDepth 100000 in
theorem okBneed : rokM cX12_need 3 (some .boolean) Bneed = true := by sorry
def Bwide_0 : List RI := [(.iload_n 1, 1, 0, 1, []), (.iconst 4, 1, 0, 0, []), (.if_icmp .ne 7, 3, 0, 9, [])]
def Bwide_5 : List RI := [(.iconst 4, 1, 0, 0, []), (.goto 4, 3, 0, 10, [])]
def Bwide_9 : List RI := [(.iconst 3, 1, 0, 0, [])]
def Bwide_10 : List RI := [(.ireturn, 1, 1, 0, [])]
def Bwide : RB := [(0, Bwide_0), (5, Bwide_5), (9, Bwide_9), (10, Bwide_10)]
set_option maxRecDepth 100000 in
theorem okBwide : rokM cX12_wide 2 (some .int) Bwide = true := by sorry
def BjudgeAll_0 : List RI := [(.aload_n 0, 1, 0, 0, []), (.iconst 1, 1, 0, 0, []), (.putfield 675, 3, 1, 68, []), (.aload_n 0, 1, 0, 0, []), (.iconst 0, 1, 0, 0, []), (.putfield 634, 3, 0, 66, []), (.aload_n 0, 1, 0, 0, []), (.bipush (-2), 2, 0, 0, []), (.putfield 637, 3, 0, 67, []), (.aload_n 0, 1, 0, 0, []), (.iconst 0, 1, 0, 0, []), (.putfield 659, 3, 0, 74, []), (.aload_n 0, 1, 0, 0, []), (.iconst 0, 1, 0, 0, []), (.putfield 656, 3, 0, 69, []), (.aload_n 0, 1, 0, 0, []), (.iconst 0, 1, 0, 0, []), (.putfield 640, 3, 0, 89, []), (.iconst 0, 1, 0, 0, []), (.istore_n 1, 1, 0, 1, [])]
def BjudgeAll_33 : List RI := [(.iload_n 1, 1, 0, 1, []), (.aload_n 0, 1, 0, 0, []), (.getfield 323, 3, 0, 2, []), (.if_icmp .ge 17, 3, 0, 55, [])]
def BjudgeAll_41 : List RI := [(.aload_n 0, 1, 0, 0, []), (.getfield 180, 3, 3, 80, []), (.iload_n 1, 1, 0, 1, []), (.bipush (-2), 2, 0, 0, []), (.iastore, 1, 0, 0, []), (.iinc 1 1, 3, 0, 0, []), (.goto (-19), 3, 0, 33, [])]
def BjudgeAll_55 : List RI := [(.aload_n 0, 1, 0, 0, []), (.invokevirtual 678, 3, 0, 87, []), (.iconst 0, 1, 0, 0, []), (.istore_n 1, 1, 0, 1, [])]
def BjudgeAll_61 : List RI := [(.iload_n 1, 1, 0, 1, []), (.aload_n 0, 1, 0, 0, []), (.getfield 519, 3, 0, 42, []), (.if_icmp .ge 62, 3, 0, 128, [])]
def BjudgeAll_69 : List RI := [(.aload_n 0, 1, 0, 0, []), (.getfield 198, 3, 4, 86, []), (.iload_n 1, 1, 0, 1, []), (.iconst 0, 1, 0, 0, []), (.bastore, 1, 0, 0, []), (.aload_n 0, 1, 0, 0, []), (.getfield 180, 3, 3, 80, []), (.aload_n 0, 1, 0, 0, []), (.getfield 90, 3, 3, 43, []), (.iload_n 1, 1, 0, 1, []), (.iaload, 1, 0, 0, []), (.iload_n 1, 1, 0, 1, []), (.iastore, 1, 0, 0, []), (.aload_n 0, 1, 0, 0, []), (.aload_n 0, 1, 0, 0, []), (.getfield 99, 3, 3, 46, []), (.iload_n 1, 1, 0, 1, []), (.iaload, 1, 0, 0, []), (.putfield 640, 3, 0, 89, []), (.aload_n 0, 1, 0, 0, []), (.aload_n 0, 1, 0, 0, []), (.getfield 90, 3, 3, 43, []), (.iload_n 1, 1, 0, 1, []), (.iaload, 1, 0, 0, []), (.invokevirtual 681, 3, 1, 71, []), (.ifCond .lt 14, 3, 0, 122, [])]
def BjudgeAll_111 : List RI := [(.aload_n 0, 1, 0, 0, []), (.iconst 2, 1, 0, 0, []), (.aload_n 0, 1, 0, 0, []), (.getfield 90, 3, 3, 43, []), (.iload_n 1, 1, 0, 1, []), (.iaload, 1, 0, 0, []), (.invokevirtual 672, 3, 2, 70, [])]
def BjudgeAll_122 : List RI := [(.iinc 1 1, 3, 0, 0, []), (.goto (-64), 3, 0, 61, [])]
def BjudgeAll_128 : List RI := [(.aload_n 0, 1, 0, 0, []), (.iconst 0, 1, 0, 0, []), (.putfield 640, 3, 0, 89, []), (.iconst 0, 1, 0, 0, []), (.istore_n 1, 1, 0, 1, [])]
def BjudgeAll_135 : List RI := [(.iload_n 1, 1, 0, 1, []), (.aload_n 0, 1, 0, 0, []), (.getfield 433, 3, 0, 18, []), (.if_icmp .ge 33, 3, 0, 173, [])]
def BjudgeAll_143 : List RI := [(.aload_n 0, 1, 0, 0, []), (.getfield 42, 3, 3, 19, []), (.iload_n 1, 1, 0, 1, []), (.iaload, 1, 0, 0, []), (.bipush 18, 2, 0, 0, []), (.if_icmp .gt 11, 3, 0, 162, [])]
def BjudgeAll_154 : List RI := [(.aload_n 0, 1, 0, 0, []), (.iload_n 1, 1, 0, 1, []), (.invokevirtual 684, 3, 1, 88, []), (.goto 8, 3, 0, 167, [])]
def BjudgeAll_162 : List RI := [(.aload_n 0, 1, 0, 0, []), (.iload_n 1, 1, 0, 1, []), (.invokevirtual 687, 3, 1, 105, [])]
def BjudgeAll_167 : List RI := [(.iinc 1 1, 3, 0, 0, []), (.goto (-35), 3, 0, 135, [])]
def BjudgeAll_173 : List RI := [(.aload_n 0, 1, 0, 0, []), (.getfield 634, 3, 0, 66, []), (.ifCond .ne 7, 3, 0, 184, [])]
def BjudgeAll_180 : List RI := [(.aload_n 0, 1, 0, 0, []), (.invokevirtual 690, 3, 0, 113, [])]
def BjudgeAll_184 : List RI := [(.return_, 1, 0, 0, [])]
def BjudgeAll : RB := [(0, BjudgeAll_0), (33, BjudgeAll_33), (41, BjudgeAll_41), (55, BjudgeAll_55), (61, BjudgeAll_61), (69, BjudgeAll_69), (111, BjudgeAll_111), (122, BjudgeAll_122), (128, BjudgeAll_128), (135, BjudgeAll_135), (143, BjudgeAll_143), (154, BjudgeAll_154), (162, BjudgeAll_162), (167, BjudgeAll_167), (173, BjudgeAll_173), (180, BjudgeAll_180), (184, BjudgeAll_184)]
set_option maxRecDepth 100000 in
theorem okBjudgeAll : rokM cX12_judgeAll 2 none BjudgeAll = true := by sorry
def BtypeOfParam_0 : List RI := [(.iload_n 1, 1, 0, 1, []), (.bipush 10, 2, 0, 0, []), (.if_icmp .ne 7, 3, 0, 10, [])]
def BtypeOfParam_6 : List RI := [(.iconst 4, 1, 0, 0, []), (.goto 16, 3, 0, 23, [])]
def BtypeOfParam_10 : List RI := [(.aload_n 0, 1, 0, 0, []), (.getfield 93, 3, 3, 44, []), (.aload_n 0, 1, 0, 0, []), (.getfield 84, 3, 3, 40, []), (.iload_n 1, 1, 0, 1, []), (.iaload, 1, 0, 0, []), (.iload_n 2, 1, 0, 2, []), (.iadd, 1, 0, 0, []), (.iaload, 1, 0, 0, [])]
def BtypeOfParam_23 : List RI := [(.ireturn, 1, 1, 0, [])]
def BtypeOfParam : RB := [(0, BtypeOfParam_0), (6, BtypeOfParam_6), (10, BtypeOfParam_10), (23, BtypeOfParam_23)]
set_option maxRecDepth 100000 in
theorem okBtypeOfParam : rokM cX12_typeOfParam 3 (some .int) BtypeOfParam = true := by sorry
def BparamsOf_0 : List RI := [(.iload_n 1, 1, 0, 1, []), (.bipush 10, 2, 0, 0, []), (.if_icmp .ne 7, 3, 0, 10, [])]
def BparamsOf_6 : List RI := [(.iconst 1, 1, 0, 0, []), (.goto 19, 3, 0, 26, [])]
def BparamsOf_10 : List RI := [(.iload_n 1, 1, 0, 1, []), (.bipush 11, 2, 0, 0, []), (.if_icmp .ne 7, 3, 0, 20, [])]
def BparamsOf_16 : List RI := [(.iconst 0, 1, 0, 0, []), (.goto 9, 3, 0, 26, [])]
def BparamsOf_20 : List RI := [(.aload_n 0, 1, 0, 0, []), (.getfield 81, 3, 3, 39, []), (.iload_n 1, 1, 0, 1, []), (.iaload, 1, 0, 0, [])]
def BparamsOf_26 : List RI := [(.ireturn, 1, 1, 0, [])]
def BparamsOf : RB := [(0, BparamsOf_0), (6, BparamsOf_6), (10, BparamsOf_10), (16, BparamsOf_16), (20, BparamsOf_20), (26, BparamsOf_26)]
set_option maxRecDepth 100000 in
theorem okBparamsOf : rokM cX12_paramsOf 2 (some .int) BparamsOf = true := by sorry
def BresultOf_0 : List RI := [(.iload_n 1, 1, 0, 1, []), (.bipush 10, 2, 0, 0, []), (.if_icmp .ne 7, 3, 0, 10, [])]
def BresultOf_6 : List RI := [(.iconst 5, 1, 0, 0, []), (.goto 19, 3, 0, 26, [])]
def BresultOf_10 : List RI := [(.iload_n 1, 1, 0, 1, []), (.bipush 11, 2, 0, 0, []), (.if_icmp .ne 7, 3, 0, 20, [])]
def BresultOf_16 : List RI := [(.iconst 3, 1, 0, 0, []), (.goto 9, 3, 0, 26, [])]
def BresultOf_20 : List RI := [(.aload_n 0, 1, 0, 0, []), (.getfield 78, 3, 3, 38, []), (.iload_n 1, 1, 0, 1, []), (.iaload, 1, 0, 0, [])]
def BresultOf_26 : List RI := [(.ireturn, 1, 1, 0, [])]
def BresultOf : RB := [(0, BresultOf_0), (6, BresultOf_6), (10, BresultOf_10), (16, BresultOf_16), (20, BresultOf_20), (26, BresultOf_26)]
set_option maxRecDepth 100000 in
theorem okBresultOf : rokM cX12_resultOf 2 (some .int) BresultOf = true := by sorry
def BisNamed_0 : List RI := [(.iload_n 1, 1, 0, 1, []), (.bipush 10, 2, 0, 0, []), (.if_icmp .ge 15, 3, 0, 18, [])]
def BisNamed_6 : List RI := [(.aload_n 0, 1, 0, 0, []), (.aload_n 0, 1, 0, 0, []), (.getfield 75, 3, 3, 37, []), (.iload_n 1, 1, 0, 1, []), (.iaload, 1, 0, 0, []), (.iload_n 2, 1, 0, 2, []), (.invokevirtual 628, 3, 2, 63, []), (.ireturn, 1, 2, 0, [])]
def BisNamed_18 : List RI := [(.iload_n 1, 1, 0, 1, []), (.bipush 10, 2, 0, 0, []), (.if_icmp .ne 9, 3, 0, 30, [])]
def BisNamed_24 : List RI := [(.ldc2_w 693, 3, 7304564, 0, []), (.goto 6, 3, 0, 33, [])]
def BisNamed_30 : List RI := [(.ldc2_w 695, 3, 26990, 0, [])]
def BisNamed_33 : List RI := [(.lstore_n 3, 1, 0, 3, []), (.aload_n 0, 1, 0, 0, []), (.getfield 25, 3, 5, 7, []), (.iload_n 2, 1, 0, 2, []), (.laload, 1, 0, 0, []), (.lload_n 3, 1, 0, 3, []), (.lcmp, 1, 0, 0, []), (.ifCond .ne 27, 3, 0, 69, [])]
def BisNamed_45 : List RI := [(.aload_n 0, 1, 0, 0, []), (.getfield 19, 3, 3, 5, []), (.iload_n 2, 1, 0, 2, []), (.iaload, 1, 0, 0, []), (.iload_n 1, 1, 0, 1, []), (.bipush 10, 2, 0, 0, []), (.if_icmp .ne 7, 3, 0, 61, [])]
def BisNamed_57 : List RI := [(.iconst 3, 1, 0, 0, []), (.goto 4, 3, 0, 62, [])]
def BisNamed_61 : List RI := [(.iconst 2, 1, 0, 0, [])]
def BisNamed_62 : List RI := [(.if_icmp .ne 7, 3, 0, 69, [])]
def BisNamed_65 : List RI := [(.iconst 1, 1, 0, 0, []), (.goto 4, 3, 0, 70, [])]
def BisNamed_69 : List RI := [(.iconst 0, 1, 0, 0, [])]
def BisNamed_70 : List RI := [(.ireturn, 1, 2, 0, [])]
def BisNamed : RB := [(0, BisNamed_0), (6, BisNamed_6), (18, BisNamed_18), (24, BisNamed_24), (30, BisNamed_30), (33, BisNamed_33), (45, BisNamed_45), (57, BisNamed_57), (61, BisNamed_61), (62, BisNamed_62), (65, BisNamed_65), (69, BisNamed_69), (70, BisNamed_70)]
set_option maxRecDepth 100000 in
theorem okBisNamed : rokM cX12_isNamed 5 (some .boolean) BisNamed = true := by sorry
def BmethodsTold_0 : List RI := [(.iconst 0, 1, 0, 0, []), (.istore_n 1, 1, 0, 1, [])]
def BmethodsTold_2 : List RI := [(.iload_n 1, 1, 0, 1, []), (.aload_n 0, 1, 0, 0, []), (.getfield 516, 3, 0, 36, []), (.if_icmp .ge 158, 3, 0, 165, [])]
def BmethodsTold_10 : List RI := [(.aload_n 0, 1, 0, 0, []), (.getfield 180, 3, 3, 80, []), (.aload_n 0, 1, 0, 0, []), (.getfield 75, 3, 3, 37, []), (.iload_n 1, 1, 0, 1, []), (.iaload, 1, 0, 0, []), (.bipush 100, 2, 0, 0, []), (.iload_n 1, 1, 0, 1, []), (.iadd, 1, 0, 0, []), (.iastore, 1, 0, 0, []), (.iconst 0, 1, 0, 0, []), (.istore_n 2, 1, 0, 2, [])]
def BmethodsTold_27 : List RI := [(.iload_n 2, 1, 0, 2, []), (.bipush 12, 2, 0, 0, []), (.if_icmp .ge 129, 3, 0, 159, [])]
def BmethodsTold_33 : List RI := [(.iload_n 2, 1, 0, 2, []), (.iload_n 1, 1, 0, 1, []), (.if_icmp .lt 9, 3, 0, 44, [])]
def BmethodsTold_38 : List RI := [(.iload_n 2, 1, 0, 2, []), (.bipush 10, 2, 0, 0, []), (.if_icmp .lt 7, 3, 0, 48, [])]
def BmethodsTold_44 : List RI := [(.iconst 1, 1, 0, 0, []), (.goto 4, 3, 0, 49, [])]
def BmethodsTold_48 : List RI := [(.iconst 0, 1, 0, 0, [])]
def BmethodsTold_49 : List RI := [(.istore_n 3, 1, 0, 3, []), (.iload_n 3, 1, 0, 3, []), (.ifCond .eq 102, 3, 0, 153, [])]
def BmethodsTold_54 : List RI := [(.aload_n 0, 1, 0, 0, []), (.iload_n 2, 1, 0, 2, []), (.aload_n 0, 1, 0, 0, []), (.getfield 75, 3, 3, 37, []), (.iload_n 1, 1, 0, 1, []), (.iaload, 1, 0, 0, []), (.invokevirtual 697, 3, 2, 86, []), (.ifCond .eq 88, 3, 0, 153, [])]
def BmethodsTold_68 : List RI := [(.aload_n 0, 1, 0, 0, []), (.iload_n 2, 1, 0, 2, []), (.invokevirtual 700, 3, 1, 84, []), (.aload_n 0, 1, 0, 0, []), (.getfield 81, 3, 3, 39, []), (.iload_n 1, 1, 0, 1, []), (.iaload, 1, 0, 0, []), (.if_icmp .eq 6, 3, 0, 85, [])]
def BmethodsTold_82 : List RI := [(.goto 71, 3, 0, 153, [])]
def BmethodsTold_85 : List RI := [(.iconst 1, 1, 0, 0, []), (.istore 4, 2, 0, 0, []), (.iconst 0, 1, 0, 0, []), (.istore 5, 2, 0, 0, [])]
def BmethodsTold_91 : List RI := [(.iload 5, 2, 0, 0, []), (.aload_n 0, 1, 0, 0, []), (.getfield 81, 3, 3, 39, []), (.iload_n 1, 1, 0, 1, []), (.iaload, 1, 0, 0, []), (.if_icmp .ge 38, 3, 0, 137, [])]
def BmethodsTold_102 : List RI := [(.iload 4, 2, 0, 0, []), (.ifCond .eq 24, 3, 0, 128, [])]
def BmethodsTold_107 : List RI := [(.aload_n 0, 1, 0, 0, []), (.iload_n 2, 1, 0, 2, []), (.iload 5, 2, 0, 0, []), (.invokevirtual 703, 3, 2, 83, []), (.aload_n 0, 1, 0, 0, []), (.iload_n 1, 1, 0, 1, []), (.iload 5, 2, 0, 0, []), (.invokevirtual 703, 3, 2, 83, []), (.if_icmp .ne 7, 3, 0, 128, [])]
def BmethodsTold_124 : List RI := [(.iconst 1, 1, 0, 0, []), (.goto 4, 3, 0, 129, [])]
def BmethodsTold_128 : List RI := [(.iconst 0, 1, 0, 0, [])]
def BmethodsTold_129 : List RI := [(.istore 4, 2, 0, 0, []), (.iinc 5 1, 3, 0, 0, []), (.goto (-43), 3, 0, 91, [])]
def BmethodsTold_137 : List RI := [(.iload 4, 2, 0, 0, []), (.ifCond .eq 14, 3, 0, 153, [])]
def BmethodsTold_142 : List RI := [(.aload_n 0, 1, 0, 0, []), (.iconst 1, 1, 0, 0, []), (.aload_n 0, 1, 0, 0, []), (.getfield 75, 3, 3, 37, []), (.iload_n 1, 1, 0, 1, []), (.iaload, 1, 0, 0, []), (.invokevirtual 672, 3, 2, 70, [])]
def BmethodsTold_153 : List RI := [(.iinc 2 1, 3, 0, 0, []), (.goto (-129), 3, 0, 27, [])]
def BmethodsTold_159 : List RI := [(.iinc 1 1, 3, 0, 0, []), (.goto (-160), 3, 0, 2, [])]
def BmethodsTold_165 : List RI := [(.return_, 1, 0, 0, [])]
def BmethodsTold : RB := [(0, BmethodsTold_0), (2, BmethodsTold_2), (10, BmethodsTold_10), (27, BmethodsTold_27), (33, BmethodsTold_33), (38, BmethodsTold_38), (44, BmethodsTold_44), (48, BmethodsTold_48), (49, BmethodsTold_49), (54, BmethodsTold_54), (68, BmethodsTold_68), (82, BmethodsTold_82), (85, BmethodsTold_85), (91, BmethodsTold_91), (102, BmethodsTold_102), (107, BmethodsTold_107), (124, BmethodsTold_124), (128, BmethodsTold_128), (129, BmethodsTold_129), (137, BmethodsTold_137), (142, BmethodsTold_142), (153, BmethodsTold_153), (159, BmethodsTold_159), (165, BmethodsTold_165)]
set_option maxRecDepth 100000 in
theorem okBmethodsTold : rokM cX12_methodsTold 6 none BmethodsTold = true := by sorry
def BjudgeExp_0 : List RI := [(.aload_n 0, 1, 0, 0, []), (.getfield 51, 3, 3, 22, []), (.iload_n 1, 1, 0, 1, []), (.iaload, 1, 0, 0, []), (.istore_n 2, 1, 0, 2, []), (.aload_n 0, 1, 0, 0, []), (.getfield 42, 3, 3, 19, []), (.iload_n 1, 1, 0, 1, []), (.iaload, 1, 0, 0, []), (.tableswitch 458 1 18 #[87, 94, 173, 173, 180, 186, 192, 458, 198, 458, 198, 458, 458, 395, 401, 458, 444, 451], 87, 0, 471, [(1, 100), (2, 107), (3, 186), (4, 186), (5, 193), (6, 199), (7, 205), (8, 471), (9, 211), (10, 471), (11, 211), (12, 471), (13, 471), (14, 408), (15, 414), (16, 471), (17, 457), (18, 464)])]
def BjudgeExp_100 : List RI := [(.aload_n 0, 1, 0, 0, []), (.iload_n 1, 1, 0, 1, []), (.iload_n 2, 1, 0, 2, []), (.invokevirtual 706, 3, 2, 89, []), (.return_, 1, 0, 0, [])]
def BjudgeExp_107 : List RI := [(.aload_n 0, 1, 0, 0, []), (.iload_n 2, 1, 0, 2, []), (.invokevirtual 681, 3, 1, 71, []), (.istore_n 3, 1, 0, 3, []), (.aload_n 0, 1, 0, 0, []), (.getfield 189, 3, 3, 83, []), (.iload_n 1, 1, 0, 1, []), (.iload_n 3, 1, 0, 3, []), (.iastore, 1, 0, 0, []), (.iload_n 3, 1, 0, 3, []), (.ifCond .ge 17, 3, 0, 138, [])]
def BjudgeExp_124 : List RI := [(.aload_n 0, 1, 0, 0, []), (.iconst 3, 1, 0, 0, []), (.iload_n 2, 1, 0, 2, []), (.invokevirtual 672, 3, 2, 70, []), (.aload_n 0, 1, 0, 0, []), (.iload_n 1, 1, 0, 1, []), (.invokevirtual 709, 3, 1, 78, []), (.goto 50, 3, 0, 185, [])]
def BjudgeExp_138 : List RI := [(.aload_n 0, 1, 0, 0, []), (.getfield 180, 3, 3, 80, []), (.iload_n 2, 1, 0, 2, []), (.iload_n 3, 1, 0, 3, []), (.iastore, 1, 0, 0, []), (.aload_n 0, 1, 0, 0, []), (.iload_n 1, 1, 0, 1, []), (.aload_n 0, 1, 0, 0, []), (.getfield 93, 3, 3, 44, []), (.iload_n 3, 1, 0, 3, []), (.iaload, 1, 0, 0, []), (.aload_n 0, 1, 0, 0, []), (.getfield 96, 3, 4, 45, []), (.iload_n 3, 1, 0, 3, []), (.baload, 1, 0, 0, []), (.ifCond .eq 16, 3, 0, 175, [])]
def BjudgeExp_162 : List RI := [(.aload_n 0, 1, 0, 0, []), (.getfield 198, 3, 4, 86, []), (.iload_n 3, 1, 0, 3, []), (.baload, 1, 0, 0, []), (.ifCond .eq 7, 3, 0, 175, [])]
def BjudgeExp_171 : List RI := [(.iconst 1, 1, 0, 0, []), (.goto 4, 3, 0, 176, [])]
def BjudgeExp_175 : List RI := [(.iconst 0, 1, 0, 0, [])]
def BjudgeExp_176 : List RI := [(.aload_n 0, 1, 0, 0, []), (.getfield 201, 3, 5, 87, []), (.iload_n 3, 1, 0, 3, []), (.laload, 1, 0, 0, []), (.invokevirtual 662, 3, 4, 77, [])]
def BjudgeExp_185 : List RI := [(.return_, 1, 0, 0, [])]
def BjudgeExp_186 : List RI := [(.aload_n 0, 1, 0, 0, []), (.iload_n 1, 1, 0, 1, []), (.iload_n 2, 1, 0, 2, []), (.invokevirtual 712, 3, 2, 90, []), (.return_, 1, 0, 0, [])]
def BjudgeExp_193 : List RI := [(.aload_n 0, 1, 0, 0, []), (.iload_n 1, 1, 0, 1, []), (.invokevirtual 715, 3, 1, 91, []), (.return_, 1, 0, 0, [])]
def BjudgeExp_199 : List RI := [(.aload_n 0, 1, 0, 0, []), (.iload_n 1, 1, 0, 1, []), (.invokevirtual 718, 3, 1, 92, []), (.return_, 1, 0, 0, [])]
def BjudgeExp_205 : List RI := [(.aload_n 0, 1, 0, 0, []), (.iload_n 1, 1, 0, 1, []), (.invokevirtual 721, 3, 1, 95, []), (.return_, 1, 0, 0, [])]
def BjudgeExp_211 : List RI := [(.aload_n 0, 1, 0, 0, []), (.dup, 1, 0, 0, []), (.getfield 656, 3, 0, 69, []), (.iconst 2, 1, 0, 0, []), (.isub, 1, 0, 0, []), (.putfield 656, 3, 0, 69, []), (.aload_n 0, 1, 0, 0, []), (.aload_n 0, 1, 0, 0, []), (.getfield 656, 3, 0, 69, []), (.iconst 0, 1, 0, 0, []), (.invokevirtual 724, 3, 2, 80, []), (.istore 4, 2, 0, 0, []), (.aload_n 0, 1, 0, 0, []), (.aload_n 0, 1, 0, 0, []), (.getfield 656, 3, 0, 69, []), (.iconst 1, 1, 0, 0, []), (.iadd, 1, 0, 0, []), (.iconst 0, 1, 0, 0, []), (.invokevirtual 724, 3, 2, 80, []), (.istore 5, 2, 0, 0, []), (.iload 4, 2, 0, 0, []), (.ifCond .eq 8, 3, 0, 255, [])]
def BjudgeExp_250 : List RI := [(.iload 5, 2, 0, 0, []), (.ifCond .ne 11, 3, 0, 263, [])]
def BjudgeExp_255 : List RI := [(.aload_n 0, 1, 0, 0, []), (.iload_n 1, 1, 0, 1, []), (.invokevirtual 709, 3, 1, 78, []), (.goto 147, 3, 0, 407, [])]
def BjudgeExp_263 : List RI := [(.aload_n 0, 1, 0, 0, []), (.getfield 156, 3, 4, 71, []), (.aload_n 0, 1, 0, 0, []), (.getfield 656, 3, 0, 69, []), (.baload, 1, 0, 0, []), (.ifCond .eq 21, 3, 0, 293, [])]
def BjudgeExp_275 : List RI := [(.aload_n 0, 1, 0, 0, []), (.getfield 156, 3, 4, 71, []), (.aload_n 0, 1, 0, 0, []), (.getfield 656, 3, 0, 69, []), (.iconst 1, 1, 0, 0, []), (.iadd, 1, 0, 0, []), (.baload, 1, 0, 0, []), (.ifCond .eq 7, 3, 0, 293, [])]
def BjudgeExp_289 : List RI := [(.iconst 1, 1, 0, 0, []), (.goto 4, 3, 0, 294, [])]
def BjudgeExp_293 : List RI := [(.iconst 0, 1, 0, 0, [])]
def BjudgeExp_294 : List RI := [(.istore 6, 2, 0, 0, []), (.aload_n 0, 1, 0, 0, []), (.getfield 159, 3, 5, 72, []), (.aload_n 0, 1, 0, 0, []), (.getfield 656, 3, 0, 69, []), (.laload, 1, 0, 0, []), (.lconst 0, 1, 0, 0, []), (.lcmp, 1, 0, 0, []), (.ifCond .eq 23, 3, 0, 330, [])]
def BjudgeExp_310 : List RI := [(.aload_n 0, 1, 0, 0, []), (.getfield 159, 3, 5, 72, []), (.aload_n 0, 1, 0, 0, []), (.getfield 656, 3, 0, 69, []), (.iconst 1, 1, 0, 0, []), (.iadd, 1, 0, 0, []), (.laload, 1, 0, 0, []), (.lconst 0, 1, 0, 0, []), (.lcmp, 1, 0, 0, []), (.ifCond .eq 7, 3, 0, 330, [])]
def BjudgeExp_326 : List RI := [(.iconst 1, 1, 0, 0, []), (.goto 4, 3, 0, 331, [])]
def BjudgeExp_330 : List RI := [(.iconst 0, 1, 0, 0, [])]
def BjudgeExp_331 : List RI := [(.istore 7, 2, 0, 0, []), (.aload_n 0, 1, 0, 0, []), (.getfield 159, 3, 5, 72, []), (.aload_n 0, 1, 0, 0, []), (.getfield 656, 3, 0, 69, []), (.laload, 1, 0, 0, []), (.lconst 0, 1, 0, 0, []), (.lcmp, 1, 0, 0, []), (.ifCond .ne 19, 3, 0, 363, [])]
def BjudgeExp_347 : List RI := [(.aload_n 0, 1, 0, 0, []), (.getfield 159, 3, 5, 72, []), (.aload_n 0, 1, 0, 0, []), (.getfield 656, 3, 0, 69, []), (.iconst 1, 1, 0, 0, []), (.iadd, 1, 0, 0, []), (.laload, 1, 0, 0, []), (.lconst 0, 1, 0, 0, []), (.lcmp, 1, 0, 0, []), (.ifCond .eq 7, 3, 0, 367, [])]
def BjudgeExp_363 : List RI := [(.iconst 1, 1, 0, 0, []), (.goto 4, 3, 0, 368, [])]
def BjudgeExp_367 : List RI := [(.iconst 0, 1, 0, 0, [])]
def BjudgeExp_368 : List RI := [(.istore 8, 2, 0, 0, []), (.aload_n 0, 1, 0, 0, []), (.iload_n 1, 1, 0, 1, []), (.iconst 0, 1, 0, 0, []), (.iload 6, 2, 0, 0, []), (.aload_n 0, 1, 0, 0, []), (.getfield 42, 3, 3, 19, []), (.iload_n 1, 1, 0, 1, []), (.iaload, 1, 0, 0, []), (.bipush 9, 2, 0, 0, []), (.if_icmp .ne 11, 3, 0, 394, [])]
def BjudgeExp_386 : List RI := [(.iload 7, 2, 0, 0, []), (.ifCond .eq 15, 3, 0, 403, [])]
def BjudgeExp_391 : List RI := [(.goto 8, 3, 0, 399, [])]
def BjudgeExp_394 : List RI := [(.iload 8, 2, 0, 0, []), (.ifCond .eq 7, 3, 0, 403, [])]
def BjudgeExp_399 : List RI := [(.lconst 1, 1, 0, 0, []), (.goto 4, 3, 0, 404, [])]
def BjudgeExp_403 : List RI := [(.lconst 0, 1, 0, 0, [])]
def BjudgeExp_404 : List RI := [(.invokevirtual 662, 3, 4, 77, [])]
def BjudgeExp_407 : List RI := [(.return_, 1, 0, 0, [])]
def BjudgeExp_408 : List RI := [(.aload_n 0, 1, 0, 0, []), (.iload_n 1, 1, 0, 1, []), (.invokevirtual 727, 3, 1, 98, []), (.return_, 1, 0, 0, [])]
def BjudgeExp_414 : List RI := [(.aload_n 0, 1, 0, 0, []), (.dup, 1, 0, 0, []), (.getfield 656, 3, 0, 69, []), (.iconst 1, 1, 0, 0, []), (.isub, 1, 0, 0, []), (.putfield 656, 3, 0, 69, []), (.aload_n 0, 1, 0, 0, []), (.iload_n 1, 1, 0, 1, []), (.aload_n 0, 1, 0, 0, []), (.getfield 153, 3, 3, 70, []), (.aload_n 0, 1, 0, 0, []), (.getfield 656, 3, 0, 69, []), (.iaload, 1, 0, 0, []), (.aload_n 0, 1, 0, 0, []), (.getfield 156, 3, 4, 71, []), (.aload_n 0, 1, 0, 0, []), (.getfield 656, 3, 0, 69, []), (.baload, 1, 0, 0, []), (.aload_n 0, 1, 0, 0, []), (.getfield 159, 3, 5, 72, []), (.aload_n 0, 1, 0, 0, []), (.getfield 656, 3, 0, 69, []), (.laload, 1, 0, 0, []), (.invokevirtual 662, 3, 4, 77, []), (.return_, 1, 0, 0, [])]
def BjudgeExp_457 : List RI := [(.aload_n 0, 1, 0, 0, []), (.iload_n 1, 1, 0, 1, []), (.iload_n 2, 1, 0, 2, []), (.invokevirtual 730, 3, 2, 100, []), (.return_, 1, 0, 0, [])]
def BjudgeExp_464 : List RI := [(.aload_n 0, 1, 0, 0, []), (.iload_n 1, 1, 0, 1, []), (.iload_n 2, 1, 0, 2, []), (.invokevirtual 733, 3, 2, 104, []), (.return_, 1, 0, 0, [])]
def BjudgeExp_471 : List RI := [(.return_, 1, 0, 0, [])]
def BjudgeExp : RB := [(0, BjudgeExp_0), (100, BjudgeExp_100), (107, BjudgeExp_107), (124, BjudgeExp_124), (138, BjudgeExp_138), (162, BjudgeExp_162), (171, BjudgeExp_171), (175, BjudgeExp_175), (176, BjudgeExp_176), (185, BjudgeExp_185), (186, BjudgeExp_186), (193, BjudgeExp_193), (199, BjudgeExp_199), (205, BjudgeExp_205), (211, BjudgeExp_211), (250, BjudgeExp_250), (255, BjudgeExp_255), (263, BjudgeExp_263), (275, BjudgeExp_275), (289, BjudgeExp_289), (293, BjudgeExp_293), (294, BjudgeExp_294), (310, BjudgeExp_310), (326, BjudgeExp_326), (330, BjudgeExp_330), (331, BjudgeExp_331), (347, BjudgeExp_347), (363, BjudgeExp_363), (367, BjudgeExp_367), (368, BjudgeExp_368), (386, BjudgeExp_386), (391, BjudgeExp_391), (394, BjudgeExp_394), (399, BjudgeExp_399), (403, BjudgeExp_403), (404, BjudgeExp_404), (407, BjudgeExp_407), (408, BjudgeExp_408), (414, BjudgeExp_414), (457, BjudgeExp_457), (464, BjudgeExp_464), (471, BjudgeExp_471)]
set_option maxRecDepth 100000 in
theorem swjudgeExp_13 : decode cX12_judgeExp 13 = .ok (.tableswitch 458 1 18 #[87, 94, 173, 173, 180, 186, 192, 458, 198, 458, 198, 458, 458, 395, 401, 458, 444, 451], 87) := by sorry
set_option maxRecDepth 100000 in
theorem okBjudgeExp : rokM cX12_judgeExp 9 none BjudgeExp = true := by sorry
def Bliteral_0 : List RI := [(.aload_n 0, 1, 0, 0, []), (.getfield 13, 3, 3, 3, []), (.iload_n 2, 1, 0, 2, []), (.iaload, 1, 0, 0, []), (.iconst 2, 1, 0, 0, []), (.if_icmp .ne 44, 3, 0, 51, [])]
def Bliteral_10 : List RI := [(.aload_n 0, 1, 0, 0, []), (.getfield 39, 3, 3, 11, []), (.iload_n 2, 1, 0, 2, []), (.iaload, 1, 0, 0, []), (.iconst 2, 1, 0, 0, []), (.if_icmp .eq 22, 3, 0, 39, [])]
def Bliteral_20 : List RI := [(.aload_n 0, 1, 0, 0, []), (.getfield 39, 3, 3, 11, []), (.iload_n 2, 1, 0, 2, []), (.iaload, 1, 0, 0, []), (.iconst 1, 1, 0, 0, []), (.if_icmp .ne 24, 3, 0, 51, [])]
def Bliteral_30 : List RI := [(.aload_n 0, 1, 0, 0, []), (.getfield 48, 3, 3, 21, []), (.iload_n 1, 1, 0, 1, []), (.iaload, 1, 0, 0, []), (.ifCond .ne 15, 3, 0, 51, [])]
def Bliteral_39 : List RI := [(.aload_n 0, 1, 0, 0, []), (.iconst 4, 1, 0, 0, []), (.iload_n 2, 1, 0, 2, []), (.invokevirtual 672, 3, 2, 70, []), (.aload_n 0, 1, 0, 0, []), (.iload_n 1, 1, 0, 1, []), (.invokevirtual 709, 3, 1, 78, []), (.return_, 1, 0, 0, [])]
def Bliteral_51 : List RI := [(.aload_n 0, 1, 0, 0, []), (.getfield 13, 3, 3, 3, []), (.iload_n 2, 1, 0, 2, []), (.iaload, 1, 0, 0, []), (.iconst 4, 1, 0, 0, []), (.if_icmp .ne 22, 3, 0, 80, [])]
def Bliteral_61 : List RI := [(.aload_n 0, 1, 0, 0, []), (.getfield 22, 3, 3, 6, []), (.iload_n 2, 1, 0, 2, []), (.iaload, 1, 0, 0, []), (.bipush 22, 2, 0, 0, []), (.if_icmp .ne 7, 3, 0, 76, [])]
def Bliteral_72 : List RI := [(.lconst 1, 1, 0, 0, []), (.goto 34, 3, 0, 107, [])]
def Bliteral_76 : List RI := [(.lconst 0, 1, 0, 0, []), (.goto 30, 3, 0, 107, [])]
def Bliteral_80 : List RI := [(.aload_n 0, 1, 0, 0, []), (.getfield 45, 3, 3, 20, []), (.iload_n 1, 1, 0, 1, []), (.iaload, 1, 0, 0, []), (.iconst 3, 1, 0, 0, []), (.if_icmp .ne 14, 3, 0, 101, [])]
def Bliteral_90 : List RI := [(.aload_n 0, 1, 0, 0, []), (.getfield 32, 3, 5, 9, []), (.iload_n 2, 1, 0, 2, []), (.laload, 1, 0, 0, []), (.l2i, 1, 0, 0, []), (.i2l, 1, 0, 0, []), (.goto 9, 3, 0, 107, [])]
def Bliteral_101 : List RI := [(.aload_n 0, 1, 0, 0, []), (.getfield 32, 3, 5, 9, []), (.iload_n 2, 1, 0, 2, []), (.laload, 1, 0, 0, [])]
def Bliteral_107 : List RI := [(.lstore_n 3, 1, 0, 3, []), (.aload_n 0, 1, 0, 0, []), (.iload_n 1, 1, 0, 1, []), (.aload_n 0, 1, 0, 0, []), (.getfield 45, 3, 3, 20, []), (.iload_n 1, 1, 0, 1, []), (.iaload, 1, 0, 0, []), (.iconst 1, 1, 0, 0, []), (.lload_n 3, 1, 0, 3, []), (.invokevirtual 662, 3, 4, 77, []), (.return_, 1, 0, 0, [])]
def Bliteral : RB := [(0, Bliteral_0), (10, Bliteral_10), (20, Bliteral_20), (30, Bliteral_30), (39, Bliteral_39), (51, Bliteral_51), (61, Bliteral_61), (72, Bliteral_72), (76, Bliteral_76), (80, Bliteral_80), (90, Bliteral_90), (101, Bliteral_101), (107, Bliteral_107)]
set_option maxRecDepth 100000 in
theorem okBliteral : rokM cX12_literal 5 none Bliteral = true := by sorry
def Bstep_0 : List RI := [(.aload_n 0, 1, 0, 0, []), (.iload_n 2, 1, 0, 2, []), (.invokevirtual 681, 3, 1, 71, []), (.istore_n 3, 1, 0, 3, []), (.aload_n 0, 1, 0, 0, []), (.getfield 189, 3, 3, 83, []), (.iload_n 1, 1, 0, 1, []), (.iload_n 3, 1, 0, 3, []), (.iastore, 1, 0, 0, []), (.iload_n 3, 1, 0, 3, []), (.ifCond .ge 15, 3, 0, 29, [])]
def Bstep_17 : List RI := [(.aload_n 0, 1, 0, 0, []), (.iconst 3, 1, 0, 0, []), (.iload_n 2, 1, 0, 2, []), (.invokevirtual 672, 3, 2, 70, []), (.aload_n 0, 1, 0, 0, []), (.iload_n 1, 1, 0, 1, []), (.invokevirtual 709, 3, 1, 78, []), (.return_, 1, 0, 0, [])]
def Bstep_29 : List RI := [(.aload_n 0, 1, 0, 0, []), (.getfield 180, 3, 3, 80, []), (.iload_n 2, 1, 0, 2, []), (.iload_n 3, 1, 0, 3, []), (.iastore, 1, 0, 0, []), (.iconst 1, 1, 0, 0, []), (.istore 4, 2, 0, 0, []), (.aload_n 0, 1, 0, 0, []), (.getfield 96, 3, 4, 45, []), (.iload_n 3, 1, 0, 3, []), (.baload, 1, 0, 0, []), (.ifCond .eq 13, 3, 0, 58, [])]
def Bstep_48 : List RI := [(.aload_n 0, 1, 0, 0, []), (.bipush 7, 2, 0, 0, []), (.iload_n 2, 1, 0, 2, []), (.invokevirtual 672, 3, 2, 70, []), (.iconst 0, 1, 0, 0, []), (.istore 4, 2, 0, 0, [])]
def Bstep_58 : List RI := [(.aload_n 0, 1, 0, 0, []), (.getfield 93, 3, 3, 44, []), (.iload_n 3, 1, 0, 3, []), (.iaload, 1, 0, 0, []), (.ifCond .ne 17, 3, 0, 81, [])]
def Bstep_67 : List RI := [(.aload_n 0, 1, 0, 0, []), (.iconst 5, 1, 0, 0, []), (.aload_n 0, 1, 0, 0, []), (.getfield 54, 3, 3, 23, []), (.iload_n 1, 1, 0, 1, []), (.iaload, 1, 0, 0, []), (.invokevirtual 672, 3, 2, 70, []), (.iconst 0, 1, 0, 0, []), (.istore 4, 2, 0, 0, [])]
def Bstep_81 : List RI := [(.iload 4, 2, 0, 0, []), (.ifCond .eq 19, 3, 0, 102, [])]
def Bstep_86 : List RI := [(.aload_n 0, 1, 0, 0, []), (.iload_n 1, 1, 0, 1, []), (.aload_n 0, 1, 0, 0, []), (.getfield 93, 3, 3, 44, []), (.iload_n 3, 1, 0, 3, []), (.iaload, 1, 0, 0, []), (.iconst 0, 1, 0, 0, []), (.lconst 0, 1, 0, 0, []), (.invokevirtual 662, 3, 4, 77, []), (.goto 8, 3, 0, 107, [])]
def Bstep_102 : List RI := [(.aload_n 0, 1, 0, 0, []), (.iload_n 1, 1, 0, 1, []), (.invokevirtual 709, 3, 1, 78, [])]
def Bstep_107 : List RI := [(.return_, 1, 0, 0, [])]
def Bstep : RB := [(0, Bstep_0), (17, Bstep_17), (29, Bstep_29), (48, Bstep_48), (58, Bstep_58), (67, Bstep_67), (81, Bstep_81), (86, Bstep_86), (102, Bstep_102), (107, Bstep_107)]
set_option maxRecDepth 100000 in
theorem okBstep : rokM cX12_step 5 none Bstep = true := by sorry
def Bunary_0 : List RI := [(.aload_n 0, 1, 0, 0, []), (.dup, 1, 0, 0, []), (.getfield 656, 3, 0, 69, []), (.iconst 1, 1, 0, 0, []), (.isub, 1, 0, 0, []), (.putfield 656, 3, 0, 69, []), (.aload_n 0, 1, 0, 0, []), (.getfield 45, 3, 3, 20, []), (.iload_n 1, 1, 0, 1, []), (.iaload, 1, 0, 0, []), (.bipush 33, 2, 0, 0, []), (.if_icmp .ne 7, 3, 0, 25, [])]
def Bunary_21 : List RI := [(.iconst 1, 1, 0, 0, []), (.goto 4, 3, 0, 26, [])]
def Bunary_25 : List RI := [(.iconst 0, 1, 0, 0, [])]
def Bunary_26 : List RI := [(.istore_n 2, 1, 0, 2, []), (.aload_n 0, 1, 0, 0, []), (.aload_n 0, 1, 0, 0, []), (.getfield 656, 3, 0, 69, []), (.iload_n 2, 1, 0, 2, []), (.ifCond .eq 7, 3, 0, 40, [])]
def Bunary_36 : List RI := [(.iconst 0, 1, 0, 0, []), (.goto 4, 3, 0, 41, [])]
def Bunary_40 : List RI := [(.iconst 1, 1, 0, 0, [])]
def Bunary_41 : List RI := [(.invokevirtual 724, 3, 2, 80, []), (.ifCond .ne 9, 3, 0, 53, [])]
def Bunary_47 : List RI := [(.aload_n 0, 1, 0, 0, []), (.iload_n 1, 1, 0, 1, []), (.invokevirtual 709, 3, 1, 78, []), (.return_, 1, 0, 0, [])]
def Bunary_53 : List RI := [(.iload_n 2, 1, 0, 2, []), (.ifCond .eq 7, 3, 0, 61, [])]
def Bunary_57 : List RI := [(.iconst 0, 1, 0, 0, []), (.goto 16, 3, 0, 74, [])]
def Bunary_61 : List RI := [(.aload_n 0, 1, 0, 0, []), (.aload_n 0, 1, 0, 0, []), (.getfield 153, 3, 3, 70, []), (.aload_n 0, 1, 0, 0, []), (.getfield 656, 3, 0, 69, []), (.iaload, 1, 0, 0, []), (.invokevirtual 736, 3, 1, 81, [])]
def Bunary_74 : List RI := [(.istore_n 3, 1, 0, 3, []), (.aload_n 0, 1, 0, 0, []), (.getfield 159, 3, 5, 72, []), (.aload_n 0, 1, 0, 0, []), (.getfield 656, 3, 0, 69, []), (.laload, 1, 0, 0, []), (.lstore 4, 2, 0, 0, []), (.iload_n 2, 1, 0, 2, []), (.ifCond .eq 10, 3, 0, 97, [])]
def Bunary_90 : List RI := [(.lconst 1, 1, 0, 0, []), (.lload 4, 2, 0, 0, []), (.lsub, 1, 0, 0, []), (.goto 42, 3, 0, 136, [])]
def Bunary_97 : List RI := [(.aload_n 0, 1, 0, 0, []), (.getfield 45, 3, 3, 20, []), (.iload_n 1, 1, 0, 1, []), (.iaload, 1, 0, 0, []), (.bipush 45, 2, 0, 0, []), (.if_icmp .ne 9, 3, 0, 114, [])]
def Bunary_108 : List RI := [(.lload 4, 2, 0, 0, []), (.lneg, 1, 0, 0, []), (.goto 25, 3, 0, 136, [])]
def Bunary_114 : List RI := [(.aload_n 0, 1, 0, 0, []), (.getfield 45, 3, 3, 20, []), (.iload_n 1, 1, 0, 1, []), (.iaload, 1, 0, 0, []), (.bipush 126, 2, 0, 0, []), (.if_icmp .ne 12, 3, 0, 134, [])]
def Bunary_125 : List RI := [(.lload 4, 2, 0, 0, []), (.ldc2_w 739, 3, (-1), 0, []), (.lxor, 1, 0, 0, []), (.goto 5, 3, 0, 136, [])]
def Bunary_134 : List RI := [(.lload 4, 2, 0, 0, [])]
def Bunary_136 : List RI := [(.lstore 6, 2, 0, 0, []), (.aload_n 0, 1, 0, 0, []), (.getfield 186, 3, 3, 82, []), (.iload_n 1, 1, 0, 1, []), (.iload_n 3, 1, 0, 3, []), (.iastore, 1, 0, 0, []), (.aload_n 0, 1, 0, 0, []), (.iload_n 1, 1, 0, 1, []), (.iload_n 3, 1, 0, 3, []), (.aload_n 0, 1, 0, 0, []), (.getfield 156, 3, 4, 71, []), (.aload_n 0, 1, 0, 0, []), (.getfield 656, 3, 0, 69, []), (.baload, 1, 0, 0, []), (.aload_n 0, 1, 0, 0, []), (.iload_n 3, 1, 0, 3, []), (.lload 6, 2, 0, 0, []), (.invokevirtual 741, 3, 2, 76, []), (.invokevirtual 662, 3, 4, 77, []), (.return_, 1, 0, 0, [])]
def Bunary : RB := [(0, Bunary_0), (21, Bunary_21), (25, Bunary_25), (26, Bunary_26), (36, Bunary_36), (40, Bunary_40), (41, Bunary_41), (47, Bunary_47), (53, Bunary_53), (57, Bunary_57), (61, Bunary_61), (74, Bunary_74), (90, Bunary_90), (97, Bunary_97), (108, Bunary_108), (114, Bunary_114), (125, Bunary_125), (134, Bunary_134), (136, Bunary_136)]
set_option maxRecDepth 100000 in
theorem okBunary : rokM cX12_unary 8 none Bunary = true := by sorry
def Bcasts_0 : List RI := [(.aload_n 0, 1, 0, 0, []), (.dup, 1, 0, 0, []), (.getfield 656, 3, 0, 69, []), (.iconst 1, 1, 0, 0, []), (.isub, 1, 0, 0, []), (.putfield 656, 3, 0, 69, []), (.aload_n 0, 1, 0, 0, []), (.aload_n 0, 1, 0, 0, []), (.getfield 656, 3, 0, 69, []), (.invokevirtual 666, 3, 1, 79, []), (.ifCond .ne 28, 3, 0, 46, [])]
def Bcasts_21 : List RI := [(.aload_n 0, 1, 0, 0, []), (.aload_n 0, 1, 0, 0, []), (.getfield 656, 3, 0, 69, []), (.aload_n 0, 1, 0, 0, []), (.getfield 45, 3, 3, 20, []), (.iload_n 1, 1, 0, 1, []), (.iaload, 1, 0, 0, []), (.ifCond .ne 7, 3, 0, 39, [])]
def Bcasts_35 : List RI := [(.iconst 0, 1, 0, 0, []), (.goto 4, 3, 0, 40, [])]
def Bcasts_39 : List RI := [(.iconst 1, 1, 0, 0, [])]
def Bcasts_40 : List RI := [(.invokevirtual 724, 3, 2, 80, []), (.ifCond .ne 9, 3, 0, 52, [])]
def Bcasts_46 : List RI := [(.aload_n 0, 1, 0, 0, []), (.iload_n 1, 1, 0, 1, []), (.invokevirtual 709, 3, 1, 78, []), (.return_, 1, 0, 0, [])]
def Bcasts_52 : List RI := [(.aload_n 0, 1, 0, 0, []), (.iload_n 1, 1, 0, 1, []), (.aload_n 0, 1, 0, 0, []), (.getfield 45, 3, 3, 20, []), (.iload_n 1, 1, 0, 1, []), (.iaload, 1, 0, 0, []), (.aload_n 0, 1, 0, 0, []), (.getfield 156, 3, 4, 71, []), (.aload_n 0, 1, 0, 0, []), (.getfield 656, 3, 0, 69, []), (.baload, 1, 0, 0, []), (.aload_n 0, 1, 0, 0, []), (.aload_n 0, 1, 0, 0, []), (.getfield 45, 3, 3, 20, []), (.iload_n 1, 1, 0, 1, []), (.iaload, 1, 0, 0, []), (.aload_n 0, 1, 0, 0, []), (.getfield 159, 3, 5, 72, []), (.aload_n 0, 1, 0, 0, []), (.getfield 656, 3, 0, 69, []), (.laload, 1, 0, 0, []), (.invokevirtual 741, 3, 2, 76, []), (.invokevirtual 662, 3, 4, 77, []), (.return_, 1, 0, 0, [])]
def Bcasts : RB := [(0, Bcasts_0), (21, Bcasts_21), (35, Bcasts_35), (39, Bcasts_39), (40, Bcasts_40), (46, Bcasts_46), (52, Bcasts_52)]
set_option maxRecDepth 100000 in
theorem okBcasts : rokM cX12_casts 2 none Bcasts = true := by sorry
def BisShift_0 : List RI := [(.iload_n 1, 1, 0, 1, []), (.sipush 304, 3, 0, 0, []), (.if_icmp .eq 17, 3, 0, 21, [])]
def BisShift_7 : List RI := [(.iload_n 1, 1, 0, 1, []), (.sipush 305, 3, 0, 0, []), (.if_icmp .eq 10, 3, 0, 21, [])]
def BisShift_14 : List RI := [(.iload_n 1, 1, 0, 1, []), (.sipush 306, 3, 0, 0, []), (.if_icmp .ne 7, 3, 0, 25, [])]
def BisShift_21 : List RI := [(.iconst 1, 1, 0, 0, []), (.goto 4, 3, 0, 26, [])]
def BisShift_25 : List RI := [(.iconst 0, 1, 0, 0, [])]
def BisShift_26 : List RI := [(.ireturn, 1, 2, 0, [])]
def BisShift : RB := [(0, BisShift_0), (7, BisShift_7), (14, BisShift_14), (21, BisShift_21), (25, BisShift_25), (26, BisShift_26)]
set_option maxRecDepth 100000 in
theorem okBisShift : rokM cX12_isShift 2 (some .boolean) BisShift = true := by sorry
def BisBits_0 : List RI := [(.iload_n 1, 1, 0, 1, []), (.bipush 38, 2, 0, 0, []), (.if_icmp .eq 15, 3, 0, 18, [])]
def BisBits_6 : List RI := [(.iload_n 1, 1, 0, 1, []), (.bipush 124, 2, 0, 0, []), (.if_icmp .eq 9, 3, 0, 18, [])]
def BisBits_12 : List RI := [(.iload_n 1, 1, 0, 1, []), (.bipush 94, 2, 0, 0, []), (.if_icmp .ne 7, 3, 0, 22, [])]
def BisBits_18 : List RI := [(.iconst 1, 1, 0, 0, []), (.goto 4, 3, 0, 23, [])]
def BisBits_22 : List RI := [(.iconst 0, 1, 0, 0, [])]
def BisBits_23 : List RI := [(.ireturn, 1, 2, 0, [])]
def BisBits : RB := [(0, BisBits_0), (6, BisBits_6), (12, BisBits_12), (18, BisBits_18), (22, BisBits_22), (23, BisBits_23)]
set_option maxRecDepth 100000 in
theorem okBisBits : rokM cX12_isBits 2 (some .boolean) BisBits = true := by sorry
def Bbinary_0 : List RI := [(.aload_n 0, 1, 0, 0, []), (.dup, 1, 0, 0, []), (.getfield 656, 3, 0, 69, []), (.iconst 2, 1, 0, 0, []), (.isub, 1, 0, 0, []), (.putfield 656, 3, 0, 69, []), (.aload_n 0, 1, 0, 0, []), (.getfield 656, 3, 0, 69, []), (.istore_n 2, 1, 0, 2, []), (.aload_n 0, 1, 0, 0, []), (.getfield 656, 3, 0, 69, []), (.iconst 1, 1, 0, 0, []), (.iadd, 1, 0, 0, []), (.istore_n 3, 1, 0, 3, []), (.aload_n 0, 1, 0, 0, []), (.getfield 45, 3, 3, 20, []), (.iload_n 1, 1, 0, 1, []), (.iaload, 1, 0, 0, []), (.istore 4, 2, 0, 0, []), (.iload 4, 2, 0, 0, []), (.sipush 300, 3, 0, 0, []), (.if_icmp .eq 11, 3, 0, 46, [])]
def Bbinary_38 : List RI := [(.iload 4, 2, 0, 0, []), (.sipush 301, 3, 0, 0, []), (.if_icmp .ne 7, 3, 0, 50, [])]
def Bbinary_46 : List RI := [(.iconst 1, 1, 0, 0, []), (.goto 4, 3, 0, 51, [])]
def Bbinary_50 : List RI := [(.iconst 0, 1, 0, 0, [])]
def Bbinary_51 : List RI := [(.istore 5, 2, 0, 0, []), (.iload 5, 2, 0, 0, []), (.ifCond .ne 12, 3, 0, 67, [])]
def Bbinary_58 : List RI := [(.aload_n 0, 1, 0, 0, []), (.iload 4, 2, 0, 0, []), (.invokevirtual 745, 3, 1, 94, []), (.ifCond .eq 7, 3, 0, 71, [])]
def Bbinary_67 : List RI := [(.iconst 1, 1, 0, 0, []), (.goto 4, 3, 0, 72, [])]
def Bbinary_71 : List RI := [(.iconst 0, 1, 0, 0, [])]
def Bbinary_72 : List RI := [(.istore 6, 2, 0, 0, []), (.aload_n 0, 1, 0, 0, []), (.iload_n 2, 1, 0, 2, []), (.invokevirtual 666, 3, 1, 79, []), (.ifCond .ne 11, 3, 0, 90, [])]
def Bbinary_82 : List RI := [(.aload_n 0, 1, 0, 0, []), (.iload_n 3, 1, 0, 3, []), (.invokevirtual 666, 3, 1, 79, []), (.ifCond .eq 41, 3, 0, 128, [])]
def Bbinary_90 : List RI := [(.aload_n 0, 1, 0, 0, []), (.iload_n 2, 1, 0, 2, []), (.invokevirtual 666, 3, 1, 79, []), (.ifCond .ne 11, 3, 0, 106, [])]
def Bbinary_98 : List RI := [(.aload_n 0, 1, 0, 0, []), (.iload_n 2, 1, 0, 2, []), (.iload 6, 2, 0, 0, []), (.invokevirtual 748, 3, 2, 96, []), (.pop, 1, 0, 0, [])]
def Bbinary_106 : List RI := [(.aload_n 0, 1, 0, 0, []), (.iload_n 3, 1, 0, 3, []), (.invokevirtual 666, 3, 1, 79, []), (.ifCond .ne 11, 3, 0, 122, [])]
def Bbinary_114 : List RI := [(.aload_n 0, 1, 0, 0, []), (.iload_n 3, 1, 0, 3, []), (.iload 6, 2, 0, 0, []), (.invokevirtual 748, 3, 2, 96, []), (.pop, 1, 0, 0, [])]
def Bbinary_122 : List RI := [(.aload_n 0, 1, 0, 0, []), (.iload_n 1, 1, 0, 1, []), (.invokevirtual 709, 3, 1, 78, []), (.return_, 1, 0, 0, [])]
def Bbinary_128 : List RI := [(.aload_n 0, 1, 0, 0, []), (.iload_n 2, 1, 0, 2, []), (.iload 6, 2, 0, 0, []), (.invokevirtual 748, 3, 2, 96, []), (.ifCond .ne 21, 3, 0, 156, [])]
def Bbinary_138 : List RI := [(.iload 6, 2, 0, 0, []), (.ifCond .ne 10, 3, 0, 150, [])]
def Bbinary_143 : List RI := [(.aload_n 0, 1, 0, 0, []), (.iload_n 3, 1, 0, 3, []), (.iconst 0, 1, 0, 0, []), (.invokevirtual 748, 3, 2, 96, []), (.pop, 1, 0, 0, [])]
def Bbinary_150 : List RI := [(.aload_n 0, 1, 0, 0, []), (.iload_n 1, 1, 0, 1, []), (.invokevirtual 709, 3, 1, 78, []), (.return_, 1, 0, 0, [])]
def Bbinary_156 : List RI := [(.iload 6, 2, 0, 0, []), (.ifCond .eq 28, 3, 0, 186, [])]
def Bbinary_161 : List RI := [(.aload_n 0, 1, 0, 0, []), (.iload_n 3, 1, 0, 3, []), (.aload_n 0, 1, 0, 0, []), (.getfield 153, 3, 3, 70, []), (.iload_n 2, 1, 0, 2, []), (.iaload, 1, 0, 0, []), (.ifCond .ne 7, 3, 0, 176, [])]
def Bbinary_172 : List RI := [(.iconst 0, 1, 0, 0, []), (.goto 4, 3, 0, 177, [])]
def Bbinary_176 : List RI := [(.iconst 1, 1, 0, 0, [])]
def Bbinary_177 : List RI := [(.invokevirtual 724, 3, 2, 80, []), (.ifCond .ne 21, 3, 0, 201, [])]
def Bbinary_183 : List RI := [(.goto 12, 3, 0, 195, [])]
def Bbinary_186 : List RI := [(.aload_n 0, 1, 0, 0, []), (.iload_n 3, 1, 0, 3, []), (.iconst 0, 1, 0, 0, []), (.invokevirtual 748, 3, 2, 96, []), (.ifCond .ne 9, 3, 0, 201, [])]
def Bbinary_195 : List RI := [(.aload_n 0, 1, 0, 0, []), (.iload_n 1, 1, 0, 1, []), (.invokevirtual 709, 3, 1, 78, []), (.return_, 1, 0, 0, [])]
def Bbinary_201 : List RI := [(.aload_n 0, 1, 0, 0, []), (.getfield 153, 3, 3, 70, []), (.iload_n 2, 1, 0, 2, []), (.iaload, 1, 0, 0, []), (.ifCond .ne 7, 3, 0, 214, [])]
def Bbinary_210 : List RI := [(.iconst 0, 1, 0, 0, []), (.goto 50, 3, 0, 261, [])]
def Bbinary_214 : List RI := [(.aload_n 0, 1, 0, 0, []), (.iload 4, 2, 0, 0, []), (.invokevirtual 752, 3, 1, 93, []), (.ifCond .eq 16, 3, 0, 236, [])]
def Bbinary_223 : List RI := [(.aload_n 0, 1, 0, 0, []), (.aload_n 0, 1, 0, 0, []), (.getfield 153, 3, 3, 70, []), (.iload_n 2, 1, 0, 2, []), (.iaload, 1, 0, 0, []), (.invokevirtual 736, 3, 1, 81, []), (.goto 28, 3, 0, 261, [])]
def Bbinary_236 : List RI := [(.aload_n 0, 1, 0, 0, []), (.getfield 153, 3, 3, 70, []), (.iload_n 2, 1, 0, 2, []), (.iaload, 1, 0, 0, []), (.iconst 4, 1, 0, 0, []), (.if_icmp .eq 13, 3, 0, 256, [])]
def Bbinary_246 : List RI := [(.aload_n 0, 1, 0, 0, []), (.getfield 153, 3, 3, 70, []), (.iload_n 3, 1, 0, 3, []), (.iaload, 1, 0, 0, []), (.iconst 4, 1, 0, 0, []), (.if_icmp .ne 7, 3, 0, 260, [])]
def Bbinary_256 : List RI := [(.iconst 4, 1, 0, 0, []), (.goto 4, 3, 0, 261, [])]
def Bbinary_260 : List RI := [(.iconst 3, 1, 0, 0, [])]
def Bbinary_261 : List RI := [(.istore 7, 2, 0, 0, []), (.iload 5, 2, 0, 0, []), (.ifCond .ne 33, 3, 0, 298, [])]
def Bbinary_268 : List RI := [(.iload 4, 2, 0, 0, []), (.bipush 60, 2, 0, 0, []), (.if_icmp .eq 26, 3, 0, 298, [])]
def Bbinary_275 : List RI := [(.iload 4, 2, 0, 0, []), (.bipush 62, 2, 0, 0, []), (.if_icmp .eq 19, 3, 0, 298, [])]
def Bbinary_282 : List RI := [(.iload 4, 2, 0, 0, []), (.sipush 302, 3, 0, 0, []), (.if_icmp .eq 11, 3, 0, 298, [])]
def Bbinary_290 : List RI := [(.iload 4, 2, 0, 0, []), (.sipush 303, 3, 0, 0, []), (.if_icmp .ne 7, 3, 0, 302, [])]
def Bbinary_298 : List RI := [(.iconst 1, 1, 0, 0, []), (.goto 4, 3, 0, 303, [])]
def Bbinary_302 : List RI := [(.iconst 0, 1, 0, 0, [])]
def Bbinary_303 : List RI := [(.istore 8, 2, 0, 0, []), (.aload_n 0, 1, 0, 0, []), (.getfield 186, 3, 3, 82, []), (.iload_n 1, 1, 0, 1, []), (.iload 7, 2, 0, 0, []), (.iastore, 1, 0, 0, []), (.aload_n 0, 1, 0, 0, []), (.getfield 156, 3, 4, 71, []), (.iload_n 2, 1, 0, 2, []), (.baload, 1, 0, 0, []), (.ifCond .eq 41, 3, 0, 360, [])]
def Bbinary_322 : List RI := [(.aload_n 0, 1, 0, 0, []), (.getfield 156, 3, 4, 71, []), (.iload_n 3, 1, 0, 3, []), (.baload, 1, 0, 0, []), (.ifCond .eq 32, 3, 0, 360, [])]
def Bbinary_331 : List RI := [(.iload 4, 2, 0, 0, []), (.bipush 47, 2, 0, 0, []), (.if_icmp .eq 10, 3, 0, 345, [])]
def Bbinary_338 : List RI := [(.iload 4, 2, 0, 0, []), (.bipush 37, 2, 0, 0, []), (.if_icmp .ne 14, 3, 0, 356, [])]
def Bbinary_345 : List RI := [(.aload_n 0, 1, 0, 0, []), (.getfield 159, 3, 5, 72, []), (.iload_n 3, 1, 0, 3, []), (.laload, 1, 0, 0, []), (.lconst 0, 1, 0, 0, []), (.lcmp, 1, 0, 0, []), (.ifCond .eq 7, 3, 0, 360, [])]
def Bbinary_356 : List RI := [(.iconst 1, 1, 0, 0, []), (.goto 4, 3, 0, 361, [])]
def Bbinary_360 : List RI := [(.iconst 0, 1, 0, 0, [])]
def Bbinary_361 : List RI := [(.istore 9, 2, 0, 0, []), (.aload_n 0, 1, 0, 0, []), (.iload_n 1, 1, 0, 1, []), (.iload 8, 2, 0, 0, []), (.ifCond .eq 7, 3, 0, 374, [])]
def Bbinary_370 : List RI := [(.iconst 0, 1, 0, 0, []), (.goto 5, 3, 0, 376, [])]
def Bbinary_374 : List RI := [(.iload 7, 2, 0, 0, [])]
def Bbinary_376 : List RI := [(.iload 9, 2, 0, 0, []), (.iload 9, 2, 0, 0, []), (.ifCond .eq 26, 3, 0, 406, [])]
def Bbinary_383 : List RI := [(.aload_n 0, 1, 0, 0, []), (.iload 4, 2, 0, 0, []), (.iload 7, 2, 0, 0, []), (.aload_n 0, 1, 0, 0, []), (.getfield 159, 3, 5, 72, []), (.iload_n 2, 1, 0, 2, []), (.laload, 1, 0, 0, []), (.aload_n 0, 1, 0, 0, []), (.getfield 159, 3, 5, 72, []), (.iload_n 3, 1, 0, 3, []), (.laload, 1, 0, 0, []), (.invokevirtual 755, 3, 4, 97, []), (.goto 4, 3, 0, 407, [])]
def Bbinary_406 : List RI := [(.lconst 0, 1, 0, 0, [])]
def Bbinary_407 : List RI := [(.invokevirtual 662, 3, 4, 77, []), (.return_, 1, 0, 0, [])]
def Bbinary : RB := [(0, Bbinary_0), (38, Bbinary_38), (46, Bbinary_46), (50, Bbinary_50), (51, Bbinary_51), (58, Bbinary_58), (67, Bbinary_67), (71, Bbinary_71), (72, Bbinary_72), (82, Bbinary_82), (90, Bbinary_90), (98, Bbinary_98), (106, Bbinary_106), (114, Bbinary_114), (122, Bbinary_122), (128, Bbinary_128), (138, Bbinary_138), (143, Bbinary_143), (150, Bbinary_150), (156, Bbinary_156), (161, Bbinary_161), (172, Bbinary_172), (176, Bbinary_176), (177, Bbinary_177), (183, Bbinary_183), (186, Bbinary_186), (195, Bbinary_195), (201, Bbinary_201), (210, Bbinary_210), (214, Bbinary_214), (223, Bbinary_223), (236, Bbinary_236), (246, Bbinary_246), (256, Bbinary_256), (260, Bbinary_260), (261, Bbinary_261), (268, Bbinary_268), (275, Bbinary_275), (282, Bbinary_282), (290, Bbinary_290), (298, Bbinary_298), (302, Bbinary_302), (303, Bbinary_303), (322, Bbinary_322), (331, Bbinary_331), (338, Bbinary_338), (345, Bbinary_345), (356, Bbinary_356), (360, Bbinary_360), (361, Bbinary_361), (370, Bbinary_370), (374, Bbinary_374), (376, Bbinary_376), (383, Bbinary_383), (406, Bbinary_406), (407, Bbinary_407)]
set_option maxRecDepth 100000 in
theorem okBbinary : rokM cX12_binary 10 none Bbinary = true := by sorry
def Bpair_0 : List RI := [(.iload_n 2, 1, 0, 2, []), (.ifCond .eq 14, 3, 0, 15, [])]
def Bpair_4 : List RI := [(.aload_n 0, 1, 0, 0, []), (.getfield 153, 3, 3, 70, []), (.iload_n 1, 1, 0, 1, []), (.iaload, 1, 0, 0, []), (.ifCond .ne 5, 3, 0, 15, [])]
def Bpair_13 : List RI := [(.iconst 1, 1, 0, 0, []), (.ireturn, 1, 2, 0, [])]
def Bpair_15 : List RI := [(.aload_n 0, 1, 0, 0, []), (.iload_n 1, 1, 0, 1, []), (.iconst 1, 1, 0, 0, []), (.invokevirtual 724, 3, 2, 80, []), (.ireturn, 1, 2, 0, [])]
def Bpair : RB := [(0, Bpair_0), (4, Bpair_4), (13, Bpair_13), (15, Bpair_15)]
set_option maxRecDepth 100000 in
theorem okBpair : rokM cX12_pair 3 (some .boolean) Bpair = true := by sorry
def Breckon_0 : List RI := [(.iload_n 1, 1, 0, 1, []), (.lookupswitch 356 #[(37, 179), (38, 189), (42, 159), (43, 139), (45, 149), (47, 169), (60, 317), (62, 330), (94, 199), (124, 194), (300, 291), (301, 304), (302, 343), (304, 204), (305, 233), (306, 262)], 139, 0, 357, [(37, 180), (38, 190), (42, 160), (43, 140), (45, 150), (47, 170), (60, 318), (62, 331), (94, 200), (124, 195), (300, 292), (301, 305), (302, 344), (304, 205), (305, 234), (306, 263)])]
def Breckon_140 : List RI := [(.aload_n 0, 1, 0, 0, []), (.iload_n 2, 1, 0, 2, []), (.lload_n 3, 1, 0, 3, []), (.lload 5, 2, 0, 0, []), (.ladd, 1, 0, 0, []), (.invokevirtual 741, 3, 2, 76, []), (.lreturn, 1, 0, 0, [])]
def Breckon_150 : List RI := [(.aload_n 0, 1, 0, 0, []), (.iload_n 2, 1, 0, 2, []), (.lload_n 3, 1, 0, 3, []), (.lload 5, 2, 0, 0, []), (.lsub, 1, 0, 0, []), (.invokevirtual 741, 3, 2, 76, []), (.lreturn, 1, 0, 0, [])]
def Breckon_160 : List RI := [(.aload_n 0, 1, 0, 0, []), (.iload_n 2, 1, 0, 2, []), (.lload_n 3, 1, 0, 3, []), (.lload 5, 2, 0, 0, []), (.lmul, 1, 0, 0, []), (.invokevirtual 741, 3, 2, 76, []), (.lreturn, 1, 0, 0, [])]
def Breckon_170 : List RI := [(.aload_n 0, 1, 0, 0, []), (.iload_n 2, 1, 0, 2, []), (.lload_n 3, 1, 0, 3, []), (.lload 5, 2, 0, 0, []), (.ldiv, 1, 0, 0, []), (.invokevirtual 741, 3, 2, 76, []), (.lreturn, 1, 0, 0, [])]
def Breckon_180 : List RI := [(.aload_n 0, 1, 0, 0, []), (.iload_n 2, 1, 0, 2, []), (.lload_n 3, 1, 0, 3, []), (.lload 5, 2, 0, 0, []), (.lrem, 1, 0, 0, []), (.invokevirtual 741, 3, 2, 76, []), (.lreturn, 1, 0, 0, [])]
def Breckon_190 : List RI := [(.lload_n 3, 1, 0, 3, []), (.lload 5, 2, 0, 0, []), (.land, 1, 0, 0, []), (.lreturn, 1, 0, 0, [])]
def Breckon_195 : List RI := [(.lload_n 3, 1, 0, 3, []), (.lload 5, 2, 0, 0, []), (.lor, 1, 0, 0, []), (.lreturn, 1, 0, 0, [])]
def Breckon_200 : List RI := [(.lload_n 3, 1, 0, 3, []), (.lload 5, 2, 0, 0, []), (.lxor, 1, 0, 0, []), (.lreturn, 1, 0, 0, [])]
def Breckon_205 : List RI := [(.iload_n 2, 1, 0, 2, []), (.iconst 4, 1, 0, 0, []), (.if_icmp .ne 15, 3, 0, 222, [])]
def Breckon_210 : List RI := [(.lload_n 3, 1, 0, 3, []), (.lload 5, 2, 0, 0, []), (.ldc2_w 759, 3, 63, 0, []), (.land, 1, 0, 0, []), (.l2i, 1, 0, 0, []), (.lshl, 1, 0, 0, []), (.goto 14, 3, 0, 233, [])]
def Breckon_222 : List RI := [(.lload_n 3, 1, 0, 3, []), (.l2i, 1, 0, 0, []), (.lload 5, 2, 0, 0, []), (.ldc2_w 761, 3, 31, 0, []), (.land, 1, 0, 0, []), (.l2i, 1, 0, 0, []), (.ishl, 1, 0, 0, []), (.i2l, 1, 0, 0, [])]
def Breckon_233 : List RI := [(.lreturn, 1, 0, 0, [])]
def Breckon_234 : List RI := [(.iload_n 2, 1, 0, 2, []), (.iconst 4, 1, 0, 0, []), (.if_icmp .ne 15, 3, 0, 251, [])]
def Breckon_239 : List RI := [(.lload_n 3, 1, 0, 3, []), (.lload 5, 2, 0, 0, []), (.ldc2_w 759, 3, 63, 0, []), (.land, 1, 0, 0, []), (.l2i, 1, 0, 0, []), (.lshr, 1, 0, 0, []), (.goto 14, 3, 0, 262, [])]
def Breckon_251 : List RI := [(.lload_n 3, 1, 0, 3, []), (.l2i, 1, 0, 0, []), (.lload 5, 2, 0, 0, []), (.ldc2_w 761, 3, 31, 0, []), (.land, 1, 0, 0, []), (.l2i, 1, 0, 0, []), (.ishr, 1, 0, 0, []), (.i2l, 1, 0, 0, [])]
def Breckon_262 : List RI := [(.lreturn, 1, 0, 0, [])]
def Breckon_263 : List RI := [(.iload_n 2, 1, 0, 2, []), (.iconst 4, 1, 0, 0, []), (.if_icmp .ne 15, 3, 0, 280, [])]
def Breckon_268 : List RI := [(.lload_n 3, 1, 0, 3, []), (.lload 5, 2, 0, 0, []), (.ldc2_w 759, 3, 63, 0, []), (.land, 1, 0, 0, []), (.l2i, 1, 0, 0, []), (.lushr, 1, 0, 0, []), (.goto 14, 3, 0, 291, [])]
def Breckon_280 : List RI := [(.lload_n 3, 1, 0, 3, []), (.l2i, 1, 0, 0, []), (.lload 5, 2, 0, 0, []), (.ldc2_w 761, 3, 31, 0, []), (.land, 1, 0, 0, []), (.l2i, 1, 0, 0, []), (.iushr, 1, 0, 0, []), (.i2l, 1, 0, 0, [])]
def Breckon_291 : List RI := [(.lreturn, 1, 0, 0, [])]
def Breckon_292 : List RI := [(.lload_n 3, 1, 0, 3, []), (.lload 5, 2, 0, 0, []), (.lcmp, 1, 0, 0, []), (.ifCond .ne 7, 3, 0, 303, [])]
def Breckon_299 : List RI := [(.lconst 1, 1, 0, 0, []), (.goto 4, 3, 0, 304, [])]
def Breckon_303 : List RI := [(.lconst 0, 1, 0, 0, [])]
def Breckon_304 : List RI := [(.lreturn, 1, 0, 0, [])]
def Breckon_305 : List RI := [(.lload_n 3, 1, 0, 3, []), (.lload 5, 2, 0, 0, []), (.lcmp, 1, 0, 0, []), (.ifCond .eq 7, 3, 0, 316, [])]
def Breckon_312 : List RI := [(.lconst 1, 1, 0, 0, []), (.goto 4, 3, 0, 317, [])]
def Breckon_316 : List RI := [(.lconst 0, 1, 0, 0, [])]
def Breckon_317 : List RI := [(.lreturn, 1, 0, 0, [])]
def Breckon_318 : List RI := [(.lload_n 3, 1, 0, 3, []), (.lload 5, 2, 0, 0, []), (.lcmp, 1, 0, 0, []), (.ifCond .ge 7, 3, 0, 329, [])]
def Breckon_325 : List RI := [(.lconst 1, 1, 0, 0, []), (.goto 4, 3, 0, 330, [])]
def Breckon_329 : List RI := [(.lconst 0, 1, 0, 0, [])]
def Breckon_330 : List RI := [(.lreturn, 1, 0, 0, [])]
def Breckon_331 : List RI := [(.lload_n 3, 1, 0, 3, []), (.lload 5, 2, 0, 0, []), (.lcmp, 1, 0, 0, []), (.ifCond .le 7, 3, 0, 342, [])]
def Breckon_338 : List RI := [(.lconst 1, 1, 0, 0, []), (.goto 4, 3, 0, 343, [])]
def Breckon_342 : List RI := [(.lconst 0, 1, 0, 0, [])]
def Breckon_343 : List RI := [(.lreturn, 1, 0, 0, [])]
def Breckon_344 : List RI := [(.lload_n 3, 1, 0, 3, []), (.lload 5, 2, 0, 0, []), (.lcmp, 1, 0, 0, []), (.ifCond .gt 7, 3, 0, 355, [])]
def Breckon_351 : List RI := [(.lconst 1, 1, 0, 0, []), (.goto 4, 3, 0, 356, [])]
def Breckon_355 : List RI := [(.lconst 0, 1, 0, 0, [])]
def Breckon_356 : List RI := [(.lreturn, 1, 0, 0, [])]
def Breckon_357 : List RI := [(.lload_n 3, 1, 0, 3, []), (.lload 5, 2, 0, 0, []), (.lcmp, 1, 0, 0, []), (.ifCond .lt 7, 3, 0, 368, [])]
def Breckon_364 : List RI := [(.lconst 1, 1, 0, 0, []), (.goto 4, 3, 0, 369, [])]
def Breckon_368 : List RI := [(.lconst 0, 1, 0, 0, [])]
def Breckon_369 : List RI := [(.lreturn, 1, 0, 0, [])]
def Breckon : RB := [(0, Breckon_0), (140, Breckon_140), (150, Breckon_150), (160, Breckon_160), (170, Breckon_170), (180, Breckon_180), (190, Breckon_190), (195, Breckon_195), (200, Breckon_200), (205, Breckon_205), (210, Breckon_210), (222, Breckon_222), (233, Breckon_233), (234, Breckon_234), (239, Breckon_239), (251, Breckon_251), (262, Breckon_262), (263, Breckon_263), (268, Breckon_268), (280, Breckon_280), (291, Breckon_291), (292, Breckon_292), (299, Breckon_299), (303, Breckon_303), (304, Breckon_304), (305, Breckon_305), (312, Breckon_312), (316, Breckon_316), (317, Breckon_317), (318, Breckon_318), (325, Breckon_325), (329, Breckon_329), (330, Breckon_330), (331, Breckon_331), (338, Breckon_338), (342, Breckon_342), (343, Breckon_343), (344, Breckon_344), (351, Breckon_351), (355, Breckon_355), (356, Breckon_356), (357, Breckon_357), (364, Breckon_364), (368, Breckon_368), (369, Breckon_369)]
set_option maxRecDepth 100000 in
theorem swreckon_1 : decode cX12_reckon 1 = .ok (.lookupswitch 356 #[(37, 179), (38, 189), (42, 159), (43, 139), (45, 149), (47, 169), (60, 317), (62, 330), (94, 199), (124, 194), (300, 291), (301, 304), (302, 343), (304, 204), (305, 233), (306, 262)], 139) := by sorry
set_option maxRecDepth 100000 in
theorem okBreckon : rokM cX12_reckon 7 (some .long) Breckon = true := by sorry
def Bchoice_0 : List RI := [(.aload_n 0, 1, 0, 0, []), (.dup, 1, 0, 0, []), (.getfield 656, 3, 0, 69, []), (.iconst 3, 1, 0, 0, []), (.isub, 1, 0, 0, []), (.putfield 656, 3, 0, 69, []), (.aload_n 0, 1, 0, 0, []), (.getfield 656, 3, 0, 69, []), (.istore_n 2, 1, 0, 2, []), (.aload_n 0, 1, 0, 0, []), (.getfield 656, 3, 0, 69, []), (.iconst 1, 1, 0, 0, []), (.iadd, 1, 0, 0, []), (.istore_n 3, 1, 0, 3, []), (.aload_n 0, 1, 0, 0, []), (.getfield 656, 3, 0, 69, []), (.iconst 2, 1, 0, 0, []), (.iadd, 1, 0, 0, []), (.istore 4, 2, 0, 0, []), (.aload_n 0, 1, 0, 0, []), (.iload_n 2, 1, 0, 2, []), (.iconst 0, 1, 0, 0, []), (.invokevirtual 724, 3, 2, 80, []), (.istore 5, 2, 0, 0, []), (.aload_n 0, 1, 0, 0, []), (.iload_n 3, 1, 0, 3, []), (.invokevirtual 666, 3, 1, 79, []), (.ifCond .ne 12, 3, 0, 55, [])]
def Bchoice_46 : List RI := [(.aload_n 0, 1, 0, 0, []), (.iload 4, 2, 0, 0, []), (.invokevirtual 666, 3, 1, 79, []), (.ifCond .eq 70, 3, 0, 122, [])]
def Bchoice_55 : List RI := [(.aload_n 0, 1, 0, 0, []), (.iload_n 3, 1, 0, 3, []), (.invokevirtual 666, 3, 1, 79, []), (.ifCond .ne 24, 3, 0, 84, [])]
def Bchoice_63 : List RI := [(.aload_n 0, 1, 0, 0, []), (.getfield 153, 3, 3, 70, []), (.iload_n 3, 1, 0, 3, []), (.iaload, 1, 0, 0, []), (.iconst 5, 1, 0, 0, []), (.if_icmp .ne 14, 3, 0, 84, [])]
def Bchoice_73 : List RI := [(.aload_n 0, 1, 0, 0, []), (.iconst 5, 1, 0, 0, []), (.aload_n 0, 1, 0, 0, []), (.getfield 162, 3, 3, 73, []), (.iload_n 3, 1, 0, 3, []), (.iaload, 1, 0, 0, []), (.invokevirtual 672, 3, 2, 70, [])]
def Bchoice_84 : List RI := [(.aload_n 0, 1, 0, 0, []), (.iload 4, 2, 0, 0, []), (.invokevirtual 666, 3, 1, 79, []), (.ifCond .ne 26, 3, 0, 116, [])]
def Bchoice_93 : List RI := [(.aload_n 0, 1, 0, 0, []), (.getfield 153, 3, 3, 70, []), (.iload 4, 2, 0, 0, []), (.iaload, 1, 0, 0, []), (.iconst 5, 1, 0, 0, []), (.if_icmp .ne 15, 3, 0, 116, [])]
def Bchoice_104 : List RI := [(.aload_n 0, 1, 0, 0, []), (.iconst 5, 1, 0, 0, []), (.aload_n 0, 1, 0, 0, []), (.getfield 162, 3, 3, 73, []), (.iload 4, 2, 0, 0, []), (.iaload, 1, 0, 0, []), (.invokevirtual 672, 3, 2, 70, [])]
def Bchoice_116 : List RI := [(.aload_n 0, 1, 0, 0, []), (.iload_n 1, 1, 0, 1, []), (.invokevirtual 709, 3, 1, 78, []), (.return_, 1, 0, 0, [])]
def Bchoice_122 : List RI := [(.aload_n 0, 1, 0, 0, []), (.getfield 153, 3, 3, 70, []), (.iload_n 3, 1, 0, 3, []), (.iaload, 1, 0, 0, []), (.iconst 5, 1, 0, 0, []), (.if_icmp .ne 43, 3, 0, 172, [])]
def Bchoice_132 : List RI := [(.aload_n 0, 1, 0, 0, []), (.iconst 5, 1, 0, 0, []), (.aload_n 0, 1, 0, 0, []), (.getfield 162, 3, 3, 73, []), (.iload_n 3, 1, 0, 3, []), (.iaload, 1, 0, 0, []), (.invokevirtual 672, 3, 2, 70, []), (.aload_n 0, 1, 0, 0, []), (.getfield 153, 3, 3, 70, []), (.iload 4, 2, 0, 0, []), (.iaload, 1, 0, 0, []), (.iconst 5, 1, 0, 0, []), (.if_icmp .ne 15, 3, 0, 166, [])]
def Bchoice_154 : List RI := [(.aload_n 0, 1, 0, 0, []), (.iconst 5, 1, 0, 0, []), (.aload_n 0, 1, 0, 0, []), (.getfield 162, 3, 3, 73, []), (.iload 4, 2, 0, 0, []), (.iaload, 1, 0, 0, []), (.invokevirtual 672, 3, 2, 70, [])]
def Bchoice_166 : List RI := [(.aload_n 0, 1, 0, 0, []), (.iload_n 1, 1, 0, 1, []), (.invokevirtual 709, 3, 1, 78, []), (.return_, 1, 0, 0, [])]
def Bchoice_172 : List RI := [(.aload_n 0, 1, 0, 0, []), (.iload 4, 2, 0, 0, []), (.aload_n 0, 1, 0, 0, []), (.getfield 153, 3, 3, 70, []), (.iload_n 3, 1, 0, 3, []), (.iaload, 1, 0, 0, []), (.ifCond .ne 7, 3, 0, 188, [])]
def Bchoice_184 : List RI := [(.iconst 0, 1, 0, 0, []), (.goto 4, 3, 0, 189, [])]
def Bchoice_188 : List RI := [(.iconst 1, 1, 0, 0, [])]
def Bchoice_189 : List RI := [(.invokevirtual 724, 3, 2, 80, []), (.ifCond .eq 8, 3, 0, 200, [])]
def Bchoice_195 : List RI := [(.iload 5, 2, 0, 0, []), (.ifCond .ne 9, 3, 0, 206, [])]
def Bchoice_200 : List RI := [(.aload_n 0, 1, 0, 0, []), (.iload_n 1, 1, 0, 1, []), (.invokevirtual 709, 3, 1, 78, []), (.return_, 1, 0, 0, [])]
def Bchoice_206 : List RI := [(.aload_n 0, 1, 0, 0, []), (.getfield 153, 3, 3, 70, []), (.iload_n 3, 1, 0, 3, []), (.iaload, 1, 0, 0, []), (.istore 6, 2, 0, 0, []), (.aload_n 0, 1, 0, 0, []), (.getfield 153, 3, 3, 70, []), (.iload 4, 2, 0, 0, []), (.iaload, 1, 0, 0, []), (.istore 7, 2, 0, 0, []), (.iload 6, 2, 0, 0, []), (.iload 7, 2, 0, 0, []), (.if_icmp .ne 8, 3, 0, 235, [])]
def Bchoice_230 : List RI := [(.iload 6, 2, 0, 0, []), (.goto 51, 3, 0, 283, [])]
def Bchoice_235 : List RI := [(.aload_n 0, 1, 0, 0, []), (.iload 4, 2, 0, 0, []), (.iload 6, 2, 0, 0, []), (.invokevirtual 763, 3, 2, 99, []), (.ifCond .eq 8, 3, 0, 251, [])]
def Bchoice_246 : List RI := [(.iload 6, 2, 0, 0, []), (.goto 35, 3, 0, 283, [])]
def Bchoice_251 : List RI := [(.aload_n 0, 1, 0, 0, []), (.iload_n 3, 1, 0, 3, []), (.iload 7, 2, 0, 0, []), (.invokevirtual 763, 3, 2, 99, []), (.ifCond .eq 8, 3, 0, 266, [])]
def Bchoice_261 : List RI := [(.iload 7, 2, 0, 0, []), (.goto 20, 3, 0, 283, [])]
def Bchoice_266 : List RI := [(.iload 6, 2, 0, 0, []), (.iconst 4, 1, 0, 0, []), (.if_icmp .eq 9, 3, 0, 278, [])]
def Bchoice_272 : List RI := [(.iload 7, 2, 0, 0, []), (.iconst 4, 1, 0, 0, []), (.if_icmp .ne 7, 3, 0, 282, [])]
def Bchoice_278 : List RI := [(.iconst 4, 1, 0, 0, []), (.goto 4, 3, 0, 283, [])]
def Bchoice_282 : List RI := [(.iconst 3, 1, 0, 0, [])]
def Bchoice_283 : List RI := [(.istore 8, 2, 0, 0, []), (.aload_n 0, 1, 0, 0, []), (.getfield 156, 3, 4, 71, []), (.iload_n 2, 1, 0, 2, []), (.baload, 1, 0, 0, []), (.ifCond .eq 26, 3, 0, 317, [])]
def Bchoice_294 : List RI := [(.aload_n 0, 1, 0, 0, []), (.getfield 156, 3, 4, 71, []), (.iload_n 3, 1, 0, 3, []), (.baload, 1, 0, 0, []), (.ifCond .eq 17, 3, 0, 317, [])]
def Bchoice_303 : List RI := [(.aload_n 0, 1, 0, 0, []), (.getfield 156, 3, 4, 71, []), (.iload 4, 2, 0, 0, []), (.baload, 1, 0, 0, []), (.ifCond .eq 7, 3, 0, 317, [])]
def Bchoice_313 : List RI := [(.iconst 1, 1, 0, 0, []), (.goto 4, 3, 0, 318, [])]
def Bchoice_317 : List RI := [(.iconst 0, 1, 0, 0, [])]
def Bchoice_318 : List RI := [(.istore 9, 2, 0, 0, []), (.aload_n 0, 1, 0, 0, []), (.getfield 186, 3, 3, 82, []), (.iload_n 1, 1, 0, 1, []), (.iload 8, 2, 0, 0, []), (.iastore, 1, 0, 0, []), (.aload_n 0, 1, 0, 0, []), (.iload_n 1, 1, 0, 1, []), (.iload 8, 2, 0, 0, []), (.iload 9, 2, 0, 0, []), (.aload_n 0, 1, 0, 0, []), (.iload 8, 2, 0, 0, []), (.aload_n 0, 1, 0, 0, []), (.getfield 159, 3, 5, 72, []), (.iload_n 2, 1, 0, 2, []), (.laload, 1, 0, 0, []), (.lconst 0, 1, 0, 0, []), (.lcmp, 1, 0, 0, []), (.ifCond .eq 12, 3, 0, 357, [])]
def Bchoice_348 : List RI := [(.aload_n 0, 1, 0, 0, []), (.getfield 159, 3, 5, 72, []), (.iload_n 3, 1, 0, 3, []), (.laload, 1, 0, 0, []), (.goto 10, 3, 0, 364, [])]
def Bchoice_357 : List RI := [(.aload_n 0, 1, 0, 0, []), (.getfield 159, 3, 5, 72, []), (.iload 4, 2, 0, 0, []), (.laload, 1, 0, 0, [])]
def Bchoice_364 : List RI := [(.invokevirtual 741, 3, 2, 76, []), (.invokevirtual 662, 3, 4, 77, []), (.return_, 1, 0, 0, [])]
def Bchoice : RB := [(0, Bchoice_0), (46, Bchoice_46), (55, Bchoice_55), (63, Bchoice_63), (73, Bchoice_73), (84, Bchoice_84), (93, Bchoice_93), (104, Bchoice_104), (116, Bchoice_116), (122, Bchoice_122), (132, Bchoice_132), (154, Bchoice_154), (166, Bchoice_166), (172, Bchoice_172), (184, Bchoice_184), (188, Bchoice_188), (189, Bchoice_189), (195, Bchoice_195), (200, Bchoice_200), (206, Bchoice_206), (230, Bchoice_230), (235, Bchoice_235), (246, Bchoice_246), (251, Bchoice_251), (261, Bchoice_261), (266, Bchoice_266), (272, Bchoice_272), (278, Bchoice_278), (282, Bchoice_282), (283, Bchoice_283), (294, Bchoice_294), (303, Bchoice_303), (313, Bchoice_313), (317, Bchoice_317), (318, Bchoice_318), (348, Bchoice_348), (357, Bchoice_357), (364, Bchoice_364)]
set_option maxRecDepth 100000 in
theorem okBchoice : rokM cX12_choice 10 none Bchoice = true := by sorry
def BisHeld_0 : List RI := [(.iload_n 2, 1, 0, 2, []), (.iconst 1, 1, 0, 0, []), (.if_icmp .eq 8, 3, 0, 10, [])]
def BisHeld_5 : List RI := [(.iload_n 2, 1, 0, 2, []), (.iconst 2, 1, 0, 0, []), (.if_icmp .ne 40, 3, 0, 47, [])]
def BisHeld_10 : List RI := [(.aload_n 0, 1, 0, 0, []), (.getfield 153, 3, 3, 70, []), (.iload_n 1, 1, 0, 1, []), (.iaload, 1, 0, 0, []), (.iconst 3, 1, 0, 0, []), (.if_icmp .ne 30, 3, 0, 47, [])]
def BisHeld_20 : List RI := [(.aload_n 0, 1, 0, 0, []), (.getfield 156, 3, 4, 71, []), (.iload_n 1, 1, 0, 1, []), (.baload, 1, 0, 0, []), (.ifCond .eq 21, 3, 0, 47, [])]
def BisHeld_29 : List RI := [(.aload_n 0, 1, 0, 0, []), (.iload_n 2, 1, 0, 2, []), (.aload_n 0, 1, 0, 0, []), (.getfield 159, 3, 5, 72, []), (.iload_n 1, 1, 0, 1, []), (.laload, 1, 0, 0, []), (.invokevirtual 652, 3, 2, 74, []), (.ifCond .eq 7, 3, 0, 47, [])]
def BisHeld_43 : List RI := [(.iconst 1, 1, 0, 0, []), (.goto 4, 3, 0, 48, [])]
def BisHeld_47 : List RI := [(.iconst 0, 1, 0, 0, [])]
def BisHeld_48 : List RI := [(.ireturn, 1, 2, 0, [])]
def BisHeld : RB := [(0, BisHeld_0), (5, BisHeld_5), (10, BisHeld_10), (20, BisHeld_20), (29, BisHeld_29), (43, BisHeld_43), (47, BisHeld_47), (48, BisHeld_48)]
set_option maxRecDepth 100000 in
theorem okBisHeld : rokM cX12_isHeld 3 (some .boolean) BisHeld = true := by sorry
def Bassign_0 : List RI := [(.aload_n 0, 1, 0, 0, []), (.dup, 1, 0, 0, []), (.getfield 656, 3, 0, 69, []), (.iconst 1, 1, 0, 0, []), (.isub, 1, 0, 0, []), (.putfield 656, 3, 0, 69, []), (.aload_n 0, 1, 0, 0, []), (.getfield 656, 3, 0, 69, []), (.istore_n 3, 1, 0, 3, []), (.aload_n 0, 1, 0, 0, []), (.iload_n 2, 1, 0, 2, []), (.invokevirtual 681, 3, 1, 71, []), (.istore 4, 2, 0, 0, []), (.aload_n 0, 1, 0, 0, []), (.getfield 189, 3, 3, 83, []), (.iload_n 1, 1, 0, 1, []), (.iload 4, 2, 0, 0, []), (.iastore, 1, 0, 0, []), (.iload 4, 2, 0, 0, []), (.ifCond .ge 36, 3, 0, 68, [])]
def Bassign_35 : List RI := [(.aload_n 0, 1, 0, 0, []), (.iconst 3, 1, 0, 0, []), (.iload_n 2, 1, 0, 2, []), (.invokevirtual 672, 3, 2, 70, []), (.aload_n 0, 1, 0, 0, []), (.getfield 153, 3, 3, 70, []), (.iload_n 3, 1, 0, 3, []), (.iaload, 1, 0, 0, []), (.iconst 5, 1, 0, 0, []), (.if_icmp .ne 14, 3, 0, 62, [])]
def Bassign_51 : List RI := [(.aload_n 0, 1, 0, 0, []), (.iconst 5, 1, 0, 0, []), (.aload_n 0, 1, 0, 0, []), (.getfield 162, 3, 3, 73, []), (.iload_n 3, 1, 0, 3, []), (.iaload, 1, 0, 0, []), (.invokevirtual 672, 3, 2, 70, [])]
def Bassign_62 : List RI := [(.aload_n 0, 1, 0, 0, []), (.iload_n 1, 1, 0, 1, []), (.invokevirtual 709, 3, 1, 78, []), (.return_, 1, 0, 0, [])]
def Bassign_68 : List RI := [(.aload_n 0, 1, 0, 0, []), (.getfield 180, 3, 3, 80, []), (.iload_n 2, 1, 0, 2, []), (.iload 4, 2, 0, 0, []), (.iastore, 1, 0, 0, []), (.aload_n 0, 1, 0, 0, []), (.getfield 96, 3, 4, 45, []), (.iload 4, 2, 0, 0, []), (.baload, 1, 0, 0, []), (.ifCond .ne 7, 3, 0, 90, [])]
def Bassign_86 : List RI := [(.iconst 1, 1, 0, 0, []), (.goto 4, 3, 0, 91, [])]
def Bassign_90 : List RI := [(.iconst 0, 1, 0, 0, [])]
def Bassign_91 : List RI := [(.istore 5, 2, 0, 0, []), (.iload 5, 2, 0, 0, []), (.ifCond .ne 10, 3, 0, 105, [])]
def Bassign_98 : List RI := [(.aload_n 0, 1, 0, 0, []), (.bipush 7, 2, 0, 0, []), (.iload_n 2, 1, 0, 2, []), (.invokevirtual 672, 3, 2, 70, [])]
def Bassign_105 : List RI := [(.aload_n 0, 1, 0, 0, []), (.getfield 93, 3, 3, 44, []), (.iload 4, 2, 0, 0, []), (.iaload, 1, 0, 0, []), (.istore 6, 2, 0, 0, []), (.aload_n 0, 1, 0, 0, []), (.getfield 45, 3, 3, 20, []), (.iload_n 1, 1, 0, 1, []), (.iaload, 1, 0, 0, []), (.istore 7, 2, 0, 0, []), (.iload 7, 2, 0, 0, []), (.bipush 61, 2, 0, 0, []), (.if_icmp .ne 38, 3, 0, 164, [])]
def Bassign_129 : List RI := [(.aload_n 0, 1, 0, 0, []), (.iload_n 3, 1, 0, 3, []), (.invokevirtual 666, 3, 1, 79, []), (.ifCond .ne 154, 3, 0, 288, [])]
def Bassign_137 : List RI := [(.aload_n 0, 1, 0, 0, []), (.iload_n 3, 1, 0, 3, []), (.iload 6, 2, 0, 0, []), (.invokevirtual 766, 3, 2, 75, []), (.ifCond .ne 144, 3, 0, 288, [])]
def Bassign_147 : List RI := [(.aload_n 0, 1, 0, 0, []), (.iconst 5, 1, 0, 0, []), (.aload_n 0, 1, 0, 0, []), (.getfield 162, 3, 3, 73, []), (.iload_n 3, 1, 0, 3, []), (.iaload, 1, 0, 0, []), (.invokevirtual 672, 3, 2, 70, []), (.iconst 0, 1, 0, 0, []), (.istore 5, 2, 0, 0, []), (.goto 127, 3, 0, 288, [])]
def Bassign_164 : List RI := [(.iload 7, 2, 0, 0, []), (.sipush 400, 3, 0, 0, []), (.isub, 1, 0, 0, []), (.istore 8, 2, 0, 0, []), (.iload 6, 2, 0, 0, []), (.ifCond .ne 39, 3, 0, 213, [])]
def Bassign_177 : List RI := [(.aload_n 0, 1, 0, 0, []), (.iload 8, 2, 0, 0, []), (.invokevirtual 745, 3, 1, 94, []), (.ifCond .ne 30, 3, 0, 213, [])]
def Bassign_186 : List RI := [(.aload_n 0, 1, 0, 0, []), (.iconst 5, 1, 0, 0, []), (.iload_n 2, 1, 0, 2, []), (.invokevirtual 672, 3, 2, 70, []), (.iconst 0, 1, 0, 0, []), (.istore 5, 2, 0, 0, []), (.aload_n 0, 1, 0, 0, []), (.iload_n 3, 1, 0, 3, []), (.invokevirtual 666, 3, 1, 79, []), (.ifCond .ne 34, 3, 0, 234, [])]
def Bassign_203 : List RI := [(.aload_n 0, 1, 0, 0, []), (.iload_n 3, 1, 0, 3, []), (.iconst 0, 1, 0, 0, []), (.invokevirtual 748, 3, 2, 96, []), (.pop, 1, 0, 0, []), (.goto 24, 3, 0, 234, [])]
def Bassign_213 : List RI := [(.aload_n 0, 1, 0, 0, []), (.iload_n 3, 1, 0, 3, []), (.iload 6, 2, 0, 0, []), (.ifCond .ne 7, 3, 0, 224, [])]
def Bassign_220 : List RI := [(.iconst 0, 1, 0, 0, []), (.goto 4, 3, 0, 225, [])]
def Bassign_224 : List RI := [(.iconst 1, 1, 0, 0, [])]
def Bassign_225 : List RI := [(.invokevirtual 724, 3, 2, 80, []), (.ifCond .ne 6, 3, 0, 234, [])]
def Bassign_231 : List RI := [(.iconst 0, 1, 0, 0, []), (.istore 5, 2, 0, 0, [])]
def Bassign_234 : List RI := [(.aload_n 0, 1, 0, 0, []), (.getfield 186, 3, 3, 82, []), (.iload_n 1, 1, 0, 1, []), (.iload 6, 2, 0, 0, []), (.ifCond .ne 7, 3, 0, 248, [])]
def Bassign_244 : List RI := [(.iconst 0, 1, 0, 0, []), (.goto 42, 3, 0, 287, [])]
def Bassign_248 : List RI := [(.aload_n 0, 1, 0, 0, []), (.iload 8, 2, 0, 0, []), (.invokevirtual 752, 3, 1, 93, []), (.ifCond .eq 12, 3, 0, 266, [])]
def Bassign_257 : List RI := [(.aload_n 0, 1, 0, 0, []), (.iload 6, 2, 0, 0, []), (.invokevirtual 736, 3, 1, 81, []), (.goto 24, 3, 0, 287, [])]
def Bassign_266 : List RI := [(.iload 6, 2, 0, 0, []), (.iconst 4, 1, 0, 0, []), (.if_icmp .eq 13, 3, 0, 282, [])]
def Bassign_272 : List RI := [(.aload_n 0, 1, 0, 0, []), (.getfield 153, 3, 3, 70, []), (.iload_n 3, 1, 0, 3, []), (.iaload, 1, 0, 0, []), (.iconst 4, 1, 0, 0, []), (.if_icmp .ne 7, 3, 0, 286, [])]
def Bassign_282 : List RI := [(.iconst 4, 1, 0, 0, []), (.goto 4, 3, 0, 287, [])]
def Bassign_286 : List RI := [(.iconst 3, 1, 0, 0, [])]
def Bassign_287 : List RI := [(.iastore, 1, 0, 0, [])]
def Bassign_288 : List RI := [(.iload 5, 2, 0, 0, []), (.ifCond .eq 23, 3, 0, 313, [])]
def Bassign_293 : List RI := [(.aload_n 0, 1, 0, 0, []), (.iload_n 3, 1, 0, 3, []), (.invokevirtual 666, 3, 1, 79, []), (.ifCond .ne 15, 3, 0, 313, [])]
def Bassign_301 : List RI := [(.aload_n 0, 1, 0, 0, []), (.iload_n 1, 1, 0, 1, []), (.iload 6, 2, 0, 0, []), (.iconst 0, 1, 0, 0, []), (.lconst 0, 1, 0, 0, []), (.invokevirtual 662, 3, 4, 77, []), (.goto 8, 3, 0, 318, [])]
def Bassign_313 : List RI := [(.aload_n 0, 1, 0, 0, []), (.iload_n 1, 1, 0, 1, []), (.invokevirtual 709, 3, 1, 78, [])]
def Bassign_318 : List RI := [(.return_, 1, 0, 0, [])]
def Bassign : RB := [(0, Bassign_0), (35, Bassign_35), (51, Bassign_51), (62, Bassign_62), (68, Bassign_68), (86, Bassign_86), (90, Bassign_90), (91, Bassign_91), (98, Bassign_98), (105, Bassign_105), (129, Bassign_129), (137, Bassign_137), (147, Bassign_147), (164, Bassign_164), (177, Bassign_177), (186, Bassign_186), (203, Bassign_203), (213, Bassign_213), (220, Bassign_220), (224, Bassign_224), (225, Bassign_225), (231, Bassign_231), (234, Bassign_234), (244, Bassign_244), (248, Bassign_248), (257, Bassign_257), (266, Bassign_266), (272, Bassign_272), (282, Bassign_282), (286, Bassign_286), (287, Bassign_287), (288, Bassign_288), (293, Bassign_293), (301, Bassign_301), (313, Bassign_313), (318, Bassign_318)]
set_option maxRecDepth 100000 in
theorem okBassign : rokM cX12_assign 9 none Bassign = true := by sorry
def Btakes_0 : List RI := [(.aload_n 0, 1, 0, 0, []), (.iload_n 1, 1, 0, 1, []), (.invokevirtual 700, 3, 1, 84, []), (.iload_n 3, 1, 0, 3, []), (.if_icmp .ne 7, 3, 0, 13, [])]
def Btakes_9 : List RI := [(.iconst 1, 1, 0, 0, []), (.goto 4, 3, 0, 14, [])]
def Btakes_13 : List RI := [(.iconst 0, 1, 0, 0, [])]
def Btakes_14 : List RI := [(.istore 4, 2, 0, 0, []), (.iconst 0, 1, 0, 0, []), (.istore 5, 2, 0, 0, [])]
def Btakes_19 : List RI := [(.iload 5, 2, 0, 0, []), (.iload_n 3, 1, 0, 3, []), (.if_icmp .ge 36, 3, 0, 58, [])]
def Btakes_25 : List RI := [(.iload 4, 2, 0, 0, []), (.ifCond .eq 31, 3, 0, 58, [])]
def Btakes_30 : List RI := [(.aload_n 0, 1, 0, 0, []), (.aload_n 0, 1, 0, 0, []), (.getfield 153, 3, 3, 70, []), (.iload_n 2, 1, 0, 2, []), (.iload 5, 2, 0, 0, []), (.iadd, 1, 0, 0, []), (.iaload, 1, 0, 0, []), (.aload_n 0, 1, 0, 0, []), (.iload_n 1, 1, 0, 1, []), (.iload 5, 2, 0, 0, []), (.invokevirtual 703, 3, 2, 83, []), (.invokevirtual 649, 3, 2, 73, []), (.istore 4, 2, 0, 0, []), (.iinc 5 1, 3, 0, 0, []), (.goto (-36), 3, 0, 19, [])]
def Btakes_58 : List RI := [(.iload 4, 2, 0, 0, []), (.ireturn, 1, 2, 0, [])]
def Btakes : RB := [(0, Btakes_0), (9, Btakes_9), (13, Btakes_13), (14, Btakes_14), (19, Btakes_19), (25, Btakes_25), (30, Btakes_30), (58, Btakes_58)]
set_option maxRecDepth 100000 in
theorem okBtakes : rokM cX12_takes 6 (some .boolean) Btakes = true := by sorry
def BisCloser_0 : List RI := [(.iconst 1, 1, 0, 0, []), (.istore_n 3, 1, 0, 3, []), (.iconst 0, 1, 0, 0, []), (.istore 4, 2, 0, 0, [])]
def BisCloser_5 : List RI := [(.iload 4, 2, 0, 0, []), (.aload_n 0, 1, 0, 0, []), (.iload_n 1, 1, 0, 1, []), (.invokevirtual 700, 3, 1, 84, []), (.if_icmp .ge 40, 3, 0, 52, [])]
def BisCloser_15 : List RI := [(.iload_n 3, 1, 0, 3, []), (.ifCond .eq 28, 3, 0, 44, [])]
def BisCloser_19 : List RI := [(.aload_n 0, 1, 0, 0, []), (.aload_n 0, 1, 0, 0, []), (.iload_n 1, 1, 0, 1, []), (.iload 4, 2, 0, 0, []), (.invokevirtual 703, 3, 2, 83, []), (.aload_n 0, 1, 0, 0, []), (.iload_n 2, 1, 0, 2, []), (.iload 4, 2, 0, 0, []), (.invokevirtual 703, 3, 2, 83, []), (.invokevirtual 649, 3, 2, 73, []), (.ifCond .eq 7, 3, 0, 44, [])]
def BisCloser_40 : List RI := [(.iconst 1, 1, 0, 0, []), (.goto 4, 3, 0, 45, [])]
def BisCloser_44 : List RI := [(.iconst 0, 1, 0, 0, [])]
def BisCloser_45 : List RI := [(.istore_n 3, 1, 0, 3, []), (.iinc 4 1, 3, 0, 0, []), (.goto (-44), 3, 0, 5, [])]
def BisCloser_52 : List RI := [(.iload_n 3, 1, 0, 3, []), (.ireturn, 1, 2, 0, [])]
def BisCloser : RB := [(0, BisCloser_0), (5, BisCloser_5), (15, BisCloser_15), (19, BisCloser_19), (40, BisCloser_40), (44, BisCloser_44), (45, BisCloser_45), (52, BisCloser_52)]
set_option maxRecDepth 100000 in
theorem okBisCloser : rokM cX12_isCloser 5 (some .boolean) BisCloser = true := by sorry
def BisMethod_0 : List RI := [(.iload_n 1, 1, 0, 1, []), (.aload_n 0, 1, 0, 0, []), (.getfield 516, 3, 0, 36, []), (.if_icmp .lt 9, 3, 0, 14, [])]
def BisMethod_8 : List RI := [(.iload_n 1, 1, 0, 1, []), (.bipush 10, 2, 0, 0, []), (.if_icmp .lt 7, 3, 0, 18, [])]
def BisMethod_14 : List RI := [(.iconst 1, 1, 0, 0, []), (.goto 4, 3, 0, 19, [])]
def BisMethod_18 : List RI := [(.iconst 0, 1, 0, 0, [])]
def BisMethod_19 : List RI := [(.ireturn, 1, 2, 0, [])]
def BisMethod : RB := [(0, BisMethod_0), (8, BisMethod_8), (14, BisMethod_14), (18, BisMethod_18), (19, BisMethod_19)]
set_option maxRecDepth 100000 in
theorem okBisMethod : rokM cX12_isMethod 2 (some .boolean) BisMethod = true := by sorry
def Bcall_0 : List RI := [(.aload_n 0, 1, 0, 0, []), (.getfield 45, 3, 3, 20, []), (.iload_n 1, 1, 0, 1, []), (.iaload, 1, 0, 0, []), (.istore_n 3, 1, 0, 3, []), (.aload_n 0, 1, 0, 0, []), (.dup, 1, 0, 0, []), (.getfield 656, 3, 0, 69, []), (.iload_n 3, 1, 0, 3, []), (.isub, 1, 0, 0, []), (.putfield 656, 3, 0, 69, []), (.aload_n 0, 1, 0, 0, []), (.getfield 656, 3, 0, 69, []), (.istore 4, 2, 0, 0, []), (.iconst 1, 1, 0, 0, []), (.istore 5, 2, 0, 0, []), (.iconst 0, 1, 0, 0, []), (.istore 6, 2, 0, 0, [])]
def Bcall_29 : List RI := [(.iload 6, 2, 0, 0, []), (.iload_n 3, 1, 0, 3, []), (.if_icmp .ge 77, 3, 0, 109, [])]
def Bcall_35 : List RI := [(.aload_n 0, 1, 0, 0, []), (.getfield 153, 3, 3, 70, []), (.iload 4, 2, 0, 0, []), (.iload 6, 2, 0, 0, []), (.iadd, 1, 0, 0, []), (.iaload, 1, 0, 0, []), (.iconst 5, 1, 0, 0, []), (.if_icmp .ne 18, 3, 0, 64, [])]
def Bcall_49 : List RI := [(.aload_n 0, 1, 0, 0, []), (.iconst 5, 1, 0, 0, []), (.aload_n 0, 1, 0, 0, []), (.getfield 162, 3, 3, 73, []), (.iload 4, 2, 0, 0, []), (.iload 6, 2, 0, 0, []), (.iadd, 1, 0, 0, []), (.iaload, 1, 0, 0, []), (.invokevirtual 672, 3, 2, 70, [])]
def Bcall_64 : List RI := [(.iload 5, 2, 0, 0, []), (.ifCond .eq 34, 3, 0, 100, [])]
def Bcall_69 : List RI := [(.aload_n 0, 1, 0, 0, []), (.getfield 153, 3, 3, 70, []), (.iload 4, 2, 0, 0, []), (.iload 6, 2, 0, 0, []), (.iadd, 1, 0, 0, []), (.iaload, 1, 0, 0, []), (.ifCond .lt 21, 3, 0, 100, [])]
def Bcall_82 : List RI := [(.aload_n 0, 1, 0, 0, []), (.getfield 153, 3, 3, 70, []), (.iload 4, 2, 0, 0, []), (.iload 6, 2, 0, 0, []), (.iadd, 1, 0, 0, []), (.iaload, 1, 0, 0, []), (.iconst 5, 1, 0, 0, []), (.if_icmp .eq 7, 3, 0, 100, [])]
def Bcall_96 : List RI := [(.iconst 1, 1, 0, 0, []), (.goto 4, 3, 0, 101, [])]
def Bcall_100 : List RI := [(.iconst 0, 1, 0, 0, [])]
def Bcall_101 : List RI := [(.istore 5, 2, 0, 0, []), (.iinc 6 1, 3, 0, 0, []), (.goto (-77), 3, 0, 29, [])]
def Bcall_109 : List RI := [(.aload_n 0, 1, 0, 0, []), (.getfield 189, 3, 3, 83, []), (.iload_n 1, 1, 0, 1, []), (.bipush (-2), 2, 0, 0, []), (.iastore, 1, 0, 0, []), (.iload 5, 2, 0, 0, []), (.ifCond .ne 9, 3, 0, 128, [])]
def Bcall_122 : List RI := [(.aload_n 0, 1, 0, 0, []), (.iload_n 1, 1, 0, 1, []), (.invokevirtual 709, 3, 1, 78, []), (.return_, 1, 0, 0, [])]
def Bcall_128 : List RI := [(.bipush (-2), 2, 0, 0, []), (.istore 6, 2, 0, 0, []), (.iconst 0, 1, 0, 0, []), (.istore 7, 2, 0, 0, [])]
def Bcall_135 : List RI := [(.iload 7, 2, 0, 0, []), (.bipush 12, 2, 0, 0, []), (.if_icmp .ge 132, 3, 0, 271, [])]
def Bcall_142 : List RI := [(.aload_n 0, 1, 0, 0, []), (.iload 7, 2, 0, 0, []), (.invokevirtual 769, 3, 1, 103, []), (.ifCond .eq 117, 3, 0, 265, [])]
def Bcall_151 : List RI := [(.aload_n 0, 1, 0, 0, []), (.iload 7, 2, 0, 0, []), (.iload_n 2, 1, 0, 2, []), (.invokevirtual 697, 3, 2, 86, []), (.ifCond .eq 107, 3, 0, 265, [])]
def Bcall_161 : List RI := [(.aload_n 0, 1, 0, 0, []), (.iload 7, 2, 0, 0, []), (.iload 4, 2, 0, 0, []), (.iload_n 3, 1, 0, 3, []), (.invokevirtual 772, 3, 3, 101, []), (.ifCond .ne 6, 3, 0, 176, [])]
def Bcall_173 : List RI := [(.goto 92, 3, 0, 265, [])]
def Bcall_176 : List RI := [(.iconst 1, 1, 0, 0, []), (.istore 8, 2, 0, 0, []), (.iconst 0, 1, 0, 0, []), (.istore 9, 2, 0, 0, [])]
def Bcall_182 : List RI := [(.iload 9, 2, 0, 0, []), (.bipush 12, 2, 0, 0, []), (.if_icmp .ge 70, 3, 0, 256, [])]
def Bcall_189 : List RI := [(.iload 9, 2, 0, 0, []), (.iload 7, 2, 0, 0, []), (.if_icmp .eq 57, 3, 0, 250, [])]
def Bcall_196 : List RI := [(.aload_n 0, 1, 0, 0, []), (.iload 9, 2, 0, 0, []), (.invokevirtual 769, 3, 1, 103, []), (.ifCond .eq 48, 3, 0, 250, [])]
def Bcall_205 : List RI := [(.aload_n 0, 1, 0, 0, []), (.iload 9, 2, 0, 0, []), (.iload_n 2, 1, 0, 2, []), (.invokevirtual 697, 3, 2, 86, []), (.ifCond .eq 38, 3, 0, 250, [])]
def Bcall_215 : List RI := [(.aload_n 0, 1, 0, 0, []), (.iload 9, 2, 0, 0, []), (.iload 4, 2, 0, 0, []), (.iload_n 3, 1, 0, 3, []), (.invokevirtual 772, 3, 3, 101, []), (.ifCond .eq 26, 3, 0, 250, [])]
def Bcall_227 : List RI := [(.iload 8, 2, 0, 0, []), (.ifCond .eq 18, 3, 0, 247, [])]
def Bcall_232 : List RI := [(.aload_n 0, 1, 0, 0, []), (.iload 7, 2, 0, 0, []), (.iload 9, 2, 0, 0, []), (.invokevirtual 775, 3, 2, 102, []), (.ifCond .eq 7, 3, 0, 247, [])]
def Bcall_243 : List RI := [(.iconst 1, 1, 0, 0, []), (.goto 4, 3, 0, 248, [])]
def Bcall_247 : List RI := [(.iconst 0, 1, 0, 0, [])]
def Bcall_248 : List RI := [(.istore 8, 2, 0, 0, [])]
def Bcall_250 : List RI := [(.iinc 9 1, 3, 0, 0, []), (.goto (-71), 3, 0, 182, [])]
def Bcall_256 : List RI := [(.iload 8, 2, 0, 0, []), (.ifCond .eq 7, 3, 0, 265, [])]
def Bcall_261 : List RI := [(.iload 7, 2, 0, 0, []), (.istore 6, 2, 0, 0, [])]
def Bcall_265 : List RI := [(.iinc 7 1, 3, 0, 0, []), (.goto (-133), 3, 0, 135, [])]
def Bcall_271 : List RI := [(.iload 6, 2, 0, 0, []), (.ifCond .ge 16, 3, 0, 289, [])]
def Bcall_276 : List RI := [(.aload_n 0, 1, 0, 0, []), (.bipush 6, 2, 0, 0, []), (.iload_n 2, 1, 0, 2, []), (.invokevirtual 672, 3, 2, 70, []), (.aload_n 0, 1, 0, 0, []), (.iload_n 1, 1, 0, 1, []), (.invokevirtual 709, 3, 1, 78, []), (.return_, 1, 0, 0, [])]
def Bcall_289 : List RI := [(.aload_n 0, 1, 0, 0, []), (.getfield 189, 3, 3, 83, []), (.iload_n 1, 1, 0, 1, []), (.iload 6, 2, 0, 0, []), (.iastore, 1, 0, 0, []), (.aload_n 0, 1, 0, 0, []), (.getfield 180, 3, 3, 80, []), (.iload_n 2, 1, 0, 2, []), (.bipush 100, 2, 0, 0, []), (.iload 6, 2, 0, 0, []), (.iadd, 1, 0, 0, []), (.iastore, 1, 0, 0, []), (.aload_n 0, 1, 0, 0, []), (.iload_n 1, 1, 0, 1, []), (.aload_n 0, 1, 0, 0, []), (.iload 6, 2, 0, 0, []), (.invokevirtual 778, 3, 1, 85, []), (.iconst 0, 1, 0, 0, []), (.lconst 0, 1, 0, 0, []), (.invokevirtual 662, 3, 4, 77, []), (.return_, 1, 0, 0, [])]
def Bcall : RB := [(0, Bcall_0), (29, Bcall_29), (35, Bcall_35), (49, Bcall_49), (64, Bcall_64), (69, Bcall_69), (82, Bcall_82), (96, Bcall_96), (100, Bcall_100), (101, Bcall_101), (109, Bcall_109), (122, Bcall_122), (128, Bcall_128), (135, Bcall_135), (142, Bcall_142), (151, Bcall_151), (161, Bcall_161), (173, Bcall_173), (176, Bcall_176), (182, Bcall_182), (189, Bcall_189), (196, Bcall_196), (205, Bcall_205), (215, Bcall_215), (227, Bcall_227), (232, Bcall_232), (243, Bcall_243), (247, Bcall_247), (248, Bcall_248), (250, Bcall_250), (256, Bcall_256), (261, Bcall_261), (265, Bcall_265), (271, Bcall_271), (276, Bcall_276), (289, Bcall_289)]
set_option maxRecDepth 100000 in
theorem okBcall : rokM cX12_call 10 none Bcall = true := by sorry
def BjudgeStep_0 : List RI := [(.aload_n 0, 1, 0, 0, []), (.getfield 45, 3, 3, 20, []), (.iload_n 1, 1, 0, 1, []), (.iaload, 1, 0, 0, []), (.istore_n 2, 1, 0, 2, []), (.aload_n 0, 1, 0, 0, []), (.getfield 51, 3, 3, 22, []), (.iload_n 1, 1, 0, 1, []), (.iaload, 1, 0, 0, []), (.istore_n 3, 1, 0, 3, []), (.aload_n 0, 1, 0, 0, []), (.getfield 42, 3, 3, 19, []), (.iload_n 1, 1, 0, 1, []), (.iaload, 1, 0, 0, []), (.tableswitch 586 21 54 #[152, 189, 206, 586, 586, 586, 206, 586, 586, 586, 206, 586, 233, 586, 586, 586, 284, 369, 376, 586, 403, 478, 586, 586, 586, 489, 489, 520, 527, 586, 586, 586, 586, 575], 152, 0, 606, [(21, 172), (22, 209), (23, 226), (24, 606), (25, 606), (26, 606), (27, 226), (28, 606), (29, 606), (30, 606), (31, 226), (32, 606), (33, 253), (34, 606), (35, 606), (36, 606), (37, 304), (38, 389), (39, 396), (40, 606), (41, 423), (42, 498), (43, 606), (44, 606), (45, 606), (46, 509), (47, 509), (48, 540), (49, 547), (50, 606), (51, 606), (52, 606), (53, 606), (54, 595)])]
def BjudgeStep_172 : List RI := [(.aload_n 0, 1, 0, 0, []), (.dup, 1, 0, 0, []), (.getfield 656, 3, 0, 69, []), (.iconst 1, 1, 0, 0, []), (.isub, 1, 0, 0, []), (.putfield 656, 3, 0, 69, []), (.aload_n 0, 1, 0, 0, []), (.getfield 186, 3, 3, 82, []), (.iload_n 1, 1, 0, 1, []), (.aload_n 0, 1, 0, 0, []), (.getfield 153, 3, 3, 70, []), (.aload_n 0, 1, 0, 0, []), (.getfield 656, 3, 0, 69, []), (.iaload, 1, 0, 0, []), (.iastore, 1, 0, 0, []), (.iload_n 2, 1, 0, 2, []), (.ifCond .ne 10, 3, 0, 208, [])]
def BjudgeStep_201 : List RI := [(.aload_n 0, 1, 0, 0, []), (.bipush 12, 2, 0, 0, []), (.iload_n 3, 1, 0, 3, []), (.invokevirtual 672, 3, 2, 70, [])]
def BjudgeStep_208 : List RI := [(.return_, 1, 0, 0, [])]
def BjudgeStep_209 : List RI := [(.aload_n 0, 1, 0, 0, []), (.getfield 48, 3, 3, 21, []), (.iload_n 1, 1, 0, 1, []), (.iaload, 1, 0, 0, []), (.iconst 2, 1, 0, 0, []), (.if_icmp .eq 9, 3, 0, 225, [])]
def BjudgeStep_219 : List RI := [(.aload_n 0, 1, 0, 0, []), (.iload_n 1, 1, 0, 1, []), (.iload_n 2, 1, 0, 2, []), (.invokevirtual 781, 3, 2, 107, [])]
def BjudgeStep_225 : List RI := [(.return_, 1, 0, 0, [])]
def BjudgeStep_226 : List RI := [(.aload_n 0, 1, 0, 0, []), (.dup, 1, 0, 0, []), (.getfield 656, 3, 0, 69, []), (.iconst 1, 1, 0, 0, []), (.isub, 1, 0, 0, []), (.putfield 656, 3, 0, 69, []), (.aload_n 0, 1, 0, 0, []), (.aload_n 0, 1, 0, 0, []), (.getfield 656, 3, 0, 69, []), (.iconst 0, 1, 0, 0, []), (.invokevirtual 724, 3, 2, 80, []), (.istore 4, 2, 0, 0, []), (.aload_n 0, 1, 0, 0, []), (.iload_n 1, 1, 0, 1, []), (.invokevirtual 784, 3, 1, 106, []), (.return_, 1, 0, 0, [])]
def BjudgeStep_253 : List RI := [(.aload_n 0, 1, 0, 0, []), (.getfield 192, 3, 4, 84, []), (.iload_n 1, 1, 0, 1, []), (.iconst 1, 1, 0, 0, []), (.bastore, 1, 0, 0, []), (.aload_n 0, 1, 0, 0, []), (.getfield 195, 3, 5, 85, []), (.iload_n 1, 1, 0, 1, []), (.lconst 1, 1, 0, 0, []), (.lastore, 1, 0, 0, []), (.aload_n 0, 1, 0, 0, []), (.getfield 48, 3, 3, 21, []), (.iload_n 1, 1, 0, 1, []), (.iaload, 1, 0, 0, []), (.ifCond .ne 4, 3, 0, 277, [])]
def BjudgeStep_276 : List RI := [(.return_, 1, 0, 0, [])]
def BjudgeStep_277 : List RI := [(.aload_n 0, 1, 0, 0, []), (.dup, 1, 0, 0, []), (.getfield 656, 3, 0, 69, []), (.iconst 1, 1, 0, 0, []), (.isub, 1, 0, 0, []), (.putfield 656, 3, 0, 69, []), (.aload_n 0, 1, 0, 0, []), (.aload_n 0, 1, 0, 0, []), (.getfield 656, 3, 0, 69, []), (.iconst 0, 1, 0, 0, []), (.invokevirtual 724, 3, 2, 80, []), (.istore 5, 2, 0, 0, []), (.aload_n 0, 1, 0, 0, []), (.iload_n 1, 1, 0, 1, []), (.invokevirtual 784, 3, 1, 106, []), (.return_, 1, 0, 0, [])]
def BjudgeStep_304 : List RI := [(.aload_n 0, 1, 0, 0, []), (.dup, 1, 0, 0, []), (.getfield 656, 3, 0, 69, []), (.iconst 1, 1, 0, 0, []), (.isub, 1, 0, 0, []), (.putfield 656, 3, 0, 69, []), (.aload_n 0, 1, 0, 0, []), (.getfield 204, 3, 3, 88, []), (.iload_n 2, 1, 0, 2, []), (.aload_n 0, 1, 0, 0, []), (.getfield 153, 3, 3, 70, []), (.aload_n 0, 1, 0, 0, []), (.getfield 656, 3, 0, 69, []), (.iaload, 1, 0, 0, []), (.iastore, 1, 0, 0, []), (.aload_n 0, 1, 0, 0, []), (.aload_n 0, 1, 0, 0, []), (.getfield 656, 3, 0, 69, []), (.invokevirtual 666, 3, 1, 79, []), (.ifCond .ne 51, 3, 0, 388, [])]
def BjudgeStep_340 : List RI := [(.aload_n 0, 1, 0, 0, []), (.getfield 153, 3, 3, 70, []), (.aload_n 0, 1, 0, 0, []), (.getfield 656, 3, 0, 69, []), (.iaload, 1, 0, 0, []), (.iconst 1, 1, 0, 0, []), (.if_icmp .lt 16, 3, 0, 366, [])]
def BjudgeStep_353 : List RI := [(.aload_n 0, 1, 0, 0, []), (.getfield 153, 3, 3, 70, []), (.aload_n 0, 1, 0, 0, []), (.getfield 656, 3, 0, 69, []), (.iaload, 1, 0, 0, []), (.iconst 3, 1, 0, 0, []), (.if_icmp .le 25, 3, 0, 388, [])]
def BjudgeStep_366 : List RI := [(.aload_n 0, 1, 0, 0, []), (.iconst 5, 1, 0, 0, []), (.aload_n 0, 1, 0, 0, []), (.getfield 162, 3, 3, 73, []), (.aload_n 0, 1, 0, 0, []), (.getfield 656, 3, 0, 69, []), (.iaload, 1, 0, 0, []), (.invokevirtual 672, 3, 2, 70, []), (.aload_n 0, 1, 0, 0, []), (.getfield 204, 3, 3, 88, []), (.iload_n 2, 1, 0, 2, []), (.bipush (-2), 2, 0, 0, []), (.iastore, 1, 0, 0, [])]
def BjudgeStep_388 : List RI := [(.return_, 1, 0, 0, [])]
def BjudgeStep_389 : List RI := [(.aload_n 0, 1, 0, 0, []), (.iload_n 1, 1, 0, 1, []), (.iload_n 2, 1, 0, 2, []), (.invokevirtual 787, 3, 2, 108, []), (.return_, 1, 0, 0, [])]
def BjudgeStep_396 : List RI := [(.aload_n 0, 1, 0, 0, []), (.getfield 135, 3, 3, 59, []), (.iload_n 2, 1, 0, 2, []), (.iaload, 1, 0, 0, []), (.ifCond .lt 13, 3, 0, 415, [])]
def BjudgeStep_405 : List RI := [(.aload_n 0, 1, 0, 0, []), (.bipush 8, 2, 0, 0, []), (.iload_n 3, 1, 0, 3, []), (.invokevirtual 672, 3, 2, 70, []), (.goto 10, 3, 0, 422, [])]
def BjudgeStep_415 : List RI := [(.aload_n 0, 1, 0, 0, []), (.getfield 135, 3, 3, 59, []), (.iload_n 2, 1, 0, 2, []), (.iload_n 1, 1, 0, 1, []), (.iastore, 1, 0, 0, [])]
def BjudgeStep_422 : List RI := [(.return_, 1, 0, 0, [])]
def BjudgeStep_423 : List RI := [(.aload_n 0, 1, 0, 0, []), (.getfield 180, 3, 3, 80, []), (.iload_n 3, 1, 0, 3, []), (.sipush 200, 3, 0, 0, []), (.iastore, 1, 0, 0, []), (.iconst 0, 1, 0, 0, []), (.istore 6, 2, 0, 0, [])]
def BjudgeStep_435 : List RI := [(.iload 6, 2, 0, 0, []), (.aload_n 0, 1, 0, 0, []), (.getfield 790, 3, 0, 91, []), (.if_icmp .ge 36, 3, 0, 477, [])]
def BjudgeStep_444 : List RI := [(.aload_n 0, 1, 0, 0, []), (.aload_n 0, 1, 0, 0, []), (.getfield 138, 3, 3, 60, []), (.aload_n 0, 1, 0, 0, []), (.getfield 207, 3, 3, 90, []), (.iload 6, 2, 0, 0, []), (.iaload, 1, 0, 0, []), (.iaload, 1, 0, 0, []), (.iload_n 3, 1, 0, 3, []), (.invokevirtual 628, 3, 2, 63, []), (.ifCond .eq 10, 3, 0, 471, [])]
def BjudgeStep_464 : List RI := [(.aload_n 0, 1, 0, 0, []), (.bipush 10, 2, 0, 0, []), (.iload_n 3, 1, 0, 3, []), (.invokevirtual 672, 3, 2, 70, [])]
def BjudgeStep_471 : List RI := [(.iinc 6 1, 3, 0, 0, []), (.goto (-39), 3, 0, 435, [])]
def BjudgeStep_477 : List RI := [(.aload_n 0, 1, 0, 0, []), (.getfield 207, 3, 3, 90, []), (.aload_n 0, 1, 0, 0, []), (.getfield 790, 3, 0, 91, []), (.iload_n 2, 1, 0, 2, []), (.iastore, 1, 0, 0, []), (.aload_n 0, 1, 0, 0, []), (.dup, 1, 0, 0, []), (.getfield 790, 3, 0, 91, []), (.iconst 1, 1, 0, 0, []), (.iadd, 1, 0, 0, []), (.putfield 790, 3, 0, 91, []), (.return_, 1, 0, 0, [])]
def BjudgeStep_498 : List RI := [(.aload_n 0, 1, 0, 0, []), (.dup, 1, 0, 0, []), (.getfield 790, 3, 0, 91, []), (.iconst 1, 1, 0, 0, []), (.isub, 1, 0, 0, []), (.putfield 790, 3, 0, 91, []), (.return_, 1, 0, 0, [])]
def BjudgeStep_509 : List RI := [(.aload_n 0, 1, 0, 0, []), (.getfield 13, 3, 3, 3, []), (.iload_n 3, 1, 0, 3, []), (.iaload, 1, 0, 0, []), (.iconst 1, 1, 0, 0, []), (.if_icmp .ne 12, 3, 0, 528, [])]
def BjudgeStep_519 : List RI := [(.aload_n 0, 1, 0, 0, []), (.getfield 180, 3, 3, 80, []), (.iload_n 3, 1, 0, 3, []), (.sipush 200, 3, 0, 0, []), (.iastore, 1, 0, 0, [])]
def BjudgeStep_528 : List RI := [(.iload_n 2, 1, 0, 2, []), (.ifCond .ge 10, 3, 0, 539, [])]
def BjudgeStep_532 : List RI := [(.aload_n 0, 1, 0, 0, []), (.bipush 9, 2, 0, 0, []), (.iload_n 3, 1, 0, 3, []), (.invokevirtual 672, 3, 2, 70, [])]
def BjudgeStep_539 : List RI := [(.return_, 1, 0, 0, [])]
def BjudgeStep_540 : List RI := [(.aload_n 0, 1, 0, 0, []), (.iload_n 1, 1, 0, 1, []), (.iload_n 3, 1, 0, 3, []), (.invokevirtual 793, 3, 2, 109, []), (.return_, 1, 0, 0, [])]
def BjudgeStep_547 : List RI := [(.aload_n 0, 1, 0, 0, []), (.dup, 1, 0, 0, []), (.getfield 656, 3, 0, 69, []), (.iconst 1, 1, 0, 0, []), (.isub, 1, 0, 0, []), (.putfield 656, 3, 0, 69, []), (.aload_n 0, 1, 0, 0, []), (.aload_n 0, 1, 0, 0, []), (.getfield 656, 3, 0, 69, []), (.invokevirtual 666, 3, 1, 79, []), (.ifCond .ne 29, 3, 0, 594, [])]
def BjudgeStep_568 : List RI := [(.aload_n 0, 1, 0, 0, []), (.aload_n 0, 1, 0, 0, []), (.getfield 656, 3, 0, 69, []), (.iconst 3, 1, 0, 0, []), (.invokevirtual 766, 3, 2, 75, []), (.ifCond .ne 17, 3, 0, 594, [])]
def BjudgeStep_580 : List RI := [(.aload_n 0, 1, 0, 0, []), (.iconst 5, 1, 0, 0, []), (.aload_n 0, 1, 0, 0, []), (.getfield 162, 3, 3, 73, []), (.aload_n 0, 1, 0, 0, []), (.getfield 656, 3, 0, 69, []), (.iaload, 1, 0, 0, []), (.invokevirtual 672, 3, 2, 70, [])]
def BjudgeStep_594 : List RI := [(.return_, 1, 0, 0, [])]
def BjudgeStep_595 : List RI := [(.aload_n 0, 1, 0, 0, []), (.dup, 1, 0, 0, []), (.getfield 640, 3, 0, 89, []), (.iconst 1, 1, 0, 0, []), (.iadd, 1, 0, 0, []), (.putfield 640, 3, 0, 89, []), (.return_, 1, 0, 0, [])]
def BjudgeStep_606 : List RI := [(.return_, 1, 0, 0, [])]
def BjudgeStep : RB := [(0, BjudgeStep_0), (172, BjudgeStep_172), (201, BjudgeStep_201), (208, BjudgeStep_208), (209, BjudgeStep_209), (219, BjudgeStep_219), (225, BjudgeStep_225), (226, BjudgeStep_226), (253, BjudgeStep_253), (276, BjudgeStep_276), (277, BjudgeStep_277), (304, BjudgeStep_304), (340, BjudgeStep_340), (353, BjudgeStep_353), (366, BjudgeStep_366), (388, BjudgeStep_388), (389, BjudgeStep_389), (396, BjudgeStep_396), (405, BjudgeStep_405), (415, BjudgeStep_415), (422, BjudgeStep_422), (423, BjudgeStep_423), (435, BjudgeStep_435), (444, BjudgeStep_444), (464, BjudgeStep_464), (471, BjudgeStep_471), (477, BjudgeStep_477), (498, BjudgeStep_498), (509, BjudgeStep_509), (519, BjudgeStep_519), (528, BjudgeStep_528), (532, BjudgeStep_532), (539, BjudgeStep_539), (540, BjudgeStep_540), (547, BjudgeStep_547), (568, BjudgeStep_568), (580, BjudgeStep_580), (594, BjudgeStep_594), (595, BjudgeStep_595), (606, BjudgeStep_606)]
set_option maxRecDepth 100000 in
theorem swjudgeStep_20 : decode cX12_judgeStep 20 = .ok (.tableswitch 586 21 54 #[152, 189, 206, 586, 586, 586, 206, 586, 586, 586, 206, 586, 233, 586, 586, 586, 284, 369, 376, 586, 403, 478, 586, 586, 586, 489, 489, 520, 527, 586, 586, 586, 586, 575], 152) := by sorry
set_option maxRecDepth 100000 in
theorem okBjudgeStep : rokM cX12_judgeStep 7 none BjudgeStep = true := by sorry
def Bkeep_0 : List RI := [(.aload_n 0, 1, 0, 0, []), (.getfield 192, 3, 4, 84, []), (.iload_n 1, 1, 0, 1, []), (.aload_n 0, 1, 0, 0, []), (.getfield 153, 3, 3, 70, []), (.aload_n 0, 1, 0, 0, []), (.getfield 656, 3, 0, 69, []), (.iaload, 1, 0, 0, []), (.ifCond .ne 19, 3, 0, 33, [])]
def Bkeep_17 : List RI := [(.aload_n 0, 1, 0, 0, []), (.getfield 156, 3, 4, 71, []), (.aload_n 0, 1, 0, 0, []), (.getfield 656, 3, 0, 69, []), (.baload, 1, 0, 0, []), (.ifCond .eq 7, 3, 0, 33, [])]
def Bkeep_29 : List RI := [(.iconst 1, 1, 0, 0, []), (.goto 4, 3, 0, 34, [])]
def Bkeep_33 : List RI := [(.iconst 0, 1, 0, 0, [])]
def Bkeep_34 : List RI := [(.bastore, 1, 0, 0, []), (.aload_n 0, 1, 0, 0, []), (.getfield 195, 3, 5, 85, []), (.iload_n 1, 1, 0, 1, []), (.aload_n 0, 1, 0, 0, []), (.getfield 159, 3, 5, 72, []), (.aload_n 0, 1, 0, 0, []), (.getfield 656, 3, 0, 69, []), (.laload, 1, 0, 0, []), (.lastore, 1, 0, 0, []), (.return_, 1, 0, 0, [])]
def Bkeep : RB := [(0, Bkeep_0), (17, Bkeep_17), (29, Bkeep_29), (33, Bkeep_33), (34, Bkeep_34)]
set_option maxRecDepth 100000 in
theorem okBkeep : rokM cX12_keep 2 none Bkeep = true := by sorry
def Bdeclared_0 : List RI := [(.aload_n 0, 1, 0, 0, []), (.getfield 48, 3, 3, 21, []), (.iload_n 1, 1, 0, 1, []), (.iaload, 1, 0, 0, []), (.ifCond .ne 4, 3, 0, 10, [])]
def Bdeclared_9 : List RI := [(.return_, 1, 0, 0, [])]
def Bdeclared_10 : List RI := [(.aload_n 0, 1, 0, 0, []), (.dup, 1, 0, 0, []), (.getfield 656, 3, 0, 69, []), (.iconst 1, 1, 0, 0, []), (.isub, 1, 0, 0, []), (.putfield 656, 3, 0, 69, []), (.aload_n 0, 1, 0, 0, []), (.aload_n 0, 1, 0, 0, []), (.getfield 656, 3, 0, 69, []), (.invokevirtual 666, 3, 1, 79, []), (.ifCond .eq 4, 3, 0, 32, [])]
def Bdeclared_31 : List RI := [(.return_, 1, 0, 0, [])]
def Bdeclared_32 : List RI := [(.aload_n 0, 1, 0, 0, []), (.aload_n 0, 1, 0, 0, []), (.getfield 656, 3, 0, 69, []), (.aload_n 0, 1, 0, 0, []), (.getfield 93, 3, 3, 44, []), (.iload_n 2, 1, 0, 2, []), (.iaload, 1, 0, 0, []), (.invokevirtual 766, 3, 2, 75, []), (.ifCond .ne 18, 3, 0, 64, [])]
def Bdeclared_49 : List RI := [(.aload_n 0, 1, 0, 0, []), (.iconst 5, 1, 0, 0, []), (.aload_n 0, 1, 0, 0, []), (.getfield 162, 3, 3, 73, []), (.aload_n 0, 1, 0, 0, []), (.getfield 656, 3, 0, 69, []), (.iaload, 1, 0, 0, []), (.invokevirtual 672, 3, 2, 70, []), (.return_, 1, 0, 0, [])]
def Bdeclared_64 : List RI := [(.aload_n 0, 1, 0, 0, []), (.getfield 198, 3, 4, 86, []), (.iload_n 2, 1, 0, 2, []), (.aload_n 0, 1, 0, 0, []), (.getfield 96, 3, 4, 45, []), (.iload_n 2, 1, 0, 2, []), (.baload, 1, 0, 0, []), (.ifCond .eq 19, 3, 0, 94, [])]
def Bdeclared_78 : List RI := [(.aload_n 0, 1, 0, 0, []), (.getfield 156, 3, 4, 71, []), (.aload_n 0, 1, 0, 0, []), (.getfield 656, 3, 0, 69, []), (.baload, 1, 0, 0, []), (.ifCond .eq 7, 3, 0, 94, [])]
def Bdeclared_90 : List RI := [(.iconst 1, 1, 0, 0, []), (.goto 4, 3, 0, 95, [])]
def Bdeclared_94 : List RI := [(.iconst 0, 1, 0, 0, [])]
def Bdeclared_95 : List RI := [(.bastore, 1, 0, 0, []), (.aload_n 0, 1, 0, 0, []), (.getfield 201, 3, 5, 87, []), (.iload_n 2, 1, 0, 2, []), (.aload_n 0, 1, 0, 0, []), (.aload_n 0, 1, 0, 0, []), (.getfield 93, 3, 3, 44, []), (.iload_n 2, 1, 0, 2, []), (.iaload, 1, 0, 0, []), (.aload_n 0, 1, 0, 0, []), (.getfield 159, 3, 5, 72, []), (.aload_n 0, 1, 0, 0, []), (.getfield 656, 3, 0, 69, []), (.laload, 1, 0, 0, []), (.invokevirtual 741, 3, 2, 76, []), (.lastore, 1, 0, 0, []), (.return_, 1, 0, 0, [])]
def Bdeclared : RB := [(0, Bdeclared_0), (9, Bdeclared_9), (10, Bdeclared_10), (31, Bdeclared_31), (32, Bdeclared_32), (49, Bdeclared_49), (64, Bdeclared_64), (78, Bdeclared_78), (90, Bdeclared_90), (94, Bdeclared_94), (95, Bdeclared_95)]
set_option maxRecDepth 100000 in
theorem okBdeclared : rokM cX12_declared 3 none Bdeclared = true := by sorry
def Bcased_0 : List RI := [(.aload_n 0, 1, 0, 0, []), (.dup, 1, 0, 0, []), (.getfield 656, 3, 0, 69, []), (.iconst 1, 1, 0, 0, []), (.isub, 1, 0, 0, []), (.putfield 656, 3, 0, 69, []), (.aload_n 0, 1, 0, 0, []), (.getfield 192, 3, 4, 84, []), (.iload_n 1, 1, 0, 1, []), (.iconst 0, 1, 0, 0, []), (.bastore, 1, 0, 0, []), (.aload_n 0, 1, 0, 0, []), (.aload_n 0, 1, 0, 0, []), (.getfield 656, 3, 0, 69, []), (.invokevirtual 666, 3, 1, 79, []), (.ifCond .ne 12, 3, 0, 37, [])]
def Bcased_28 : List RI := [(.aload_n 0, 1, 0, 0, []), (.getfield 204, 3, 3, 88, []), (.iload_n 2, 1, 0, 2, []), (.iaload, 1, 0, 0, []), (.ifCond .ge 4, 3, 0, 38, [])]
def Bcased_37 : List RI := [(.return_, 1, 0, 0, [])]
def Bcased_38 : List RI := [(.aload_n 0, 1, 0, 0, []), (.getfield 156, 3, 4, 71, []), (.aload_n 0, 1, 0, 0, []), (.getfield 656, 3, 0, 69, []), (.baload, 1, 0, 0, []), (.ifCond .eq 20, 3, 0, 67, [])]
def Bcased_50 : List RI := [(.aload_n 0, 1, 0, 0, []), (.aload_n 0, 1, 0, 0, []), (.getfield 656, 3, 0, 69, []), (.aload_n 0, 1, 0, 0, []), (.getfield 204, 3, 3, 88, []), (.iload_n 2, 1, 0, 2, []), (.iaload, 1, 0, 0, []), (.invokevirtual 766, 3, 2, 75, []), (.ifCond .ne 19, 3, 0, 83, [])]
def Bcased_67 : List RI := [(.aload_n 0, 1, 0, 0, []), (.bipush 8, 2, 0, 0, []), (.aload_n 0, 1, 0, 0, []), (.getfield 162, 3, 3, 73, []), (.aload_n 0, 1, 0, 0, []), (.getfield 656, 3, 0, 69, []), (.iaload, 1, 0, 0, []), (.invokevirtual 672, 3, 2, 70, []), (.return_, 1, 0, 0, [])]
def Bcased_83 : List RI := [(.aload_n 0, 1, 0, 0, []), (.getfield 195, 3, 5, 85, []), (.iload_n 1, 1, 0, 1, []), (.aload_n 0, 1, 0, 0, []), (.getfield 159, 3, 5, 72, []), (.aload_n 0, 1, 0, 0, []), (.getfield 656, 3, 0, 69, []), (.laload, 1, 0, 0, []), (.lastore, 1, 0, 0, []), (.aload_n 0, 1, 0, 0, []), (.getfield 111, 3, 3, 51, []), (.iload_n 2, 1, 0, 2, []), (.iaload, 1, 0, 0, []), (.istore_n 3, 1, 0, 3, [])]
def Bcased_105 : List RI := [(.iload_n 3, 1, 0, 3, []), (.iload_n 1, 1, 0, 1, []), (.if_icmp .ge 71, 3, 0, 178, [])]
def Bcased_110 : List RI := [(.aload_n 0, 1, 0, 0, []), (.getfield 42, 3, 3, 19, []), (.iload_n 3, 1, 0, 3, []), (.iaload, 1, 0, 0, []), (.bipush 38, 2, 0, 0, []), (.if_icmp .ne 54, 3, 0, 172, [])]
def Bcased_121 : List RI := [(.aload_n 0, 1, 0, 0, []), (.getfield 45, 3, 3, 20, []), (.iload_n 3, 1, 0, 3, []), (.iaload, 1, 0, 0, []), (.iload_n 2, 1, 0, 2, []), (.if_icmp .ne 44, 3, 0, 172, [])]
def Bcased_131 : List RI := [(.aload_n 0, 1, 0, 0, []), (.getfield 192, 3, 4, 84, []), (.iload_n 3, 1, 0, 3, []), (.baload, 1, 0, 0, []), (.ifCond .eq 35, 3, 0, 172, [])]
def Bcased_140 : List RI := [(.aload_n 0, 1, 0, 0, []), (.getfield 195, 3, 5, 85, []), (.iload_n 3, 1, 0, 3, []), (.laload, 1, 0, 0, []), (.aload_n 0, 1, 0, 0, []), (.getfield 195, 3, 5, 85, []), (.iload_n 1, 1, 0, 1, []), (.laload, 1, 0, 0, []), (.lcmp, 1, 0, 0, []), (.ifCond .ne 19, 3, 0, 172, [])]
def Bcased_156 : List RI := [(.aload_n 0, 1, 0, 0, []), (.bipush 8, 2, 0, 0, []), (.aload_n 0, 1, 0, 0, []), (.getfield 162, 3, 3, 73, []), (.aload_n 0, 1, 0, 0, []), (.getfield 656, 3, 0, 69, []), (.iaload, 1, 0, 0, []), (.invokevirtual 672, 3, 2, 70, []), (.return_, 1, 0, 0, [])]
def Bcased_172 : List RI := [(.iinc 3 1, 3, 0, 0, []), (.goto (-70), 3, 0, 105, [])]
def Bcased_178 : List RI := [(.aload_n 0, 1, 0, 0, []), (.getfield 192, 3, 4, 84, []), (.iload_n 1, 1, 0, 1, []), (.iconst 1, 1, 0, 0, []), (.bastore, 1, 0, 0, []), (.return_, 1, 0, 0, [])]
def Bcased : RB := [(0, Bcased_0), (28, Bcased_28), (37, Bcased_37), (38, Bcased_38), (50, Bcased_50), (67, Bcased_67), (83, Bcased_83), (105, Bcased_105), (110, Bcased_110), (121, Bcased_121), (131, Bcased_131), (140, Bcased_140), (156, Bcased_156), (172, Bcased_172), (178, Bcased_178)]
set_option maxRecDepth 100000 in
theorem okBcased : rokM cX12_cased 4 none Bcased = true := by sorry
def Breturns_0 : List RI := [(.aload_n 0, 1, 0, 0, []), (.aload_n 0, 1, 0, 0, []), (.getfield 640, 3, 0, 89, []), (.invokevirtual 778, 3, 1, 85, []), (.istore_n 3, 1, 0, 3, []), (.aload_n 0, 1, 0, 0, []), (.getfield 45, 3, 3, 20, []), (.iload_n 1, 1, 0, 1, []), (.iaload, 1, 0, 0, []), (.ifCond .ne 16, 3, 0, 31, [])]
def Breturns_18 : List RI := [(.iload_n 3, 1, 0, 3, []), (.iconst 5, 1, 0, 0, []), (.if_icmp .eq 10, 3, 0, 30, [])]
def Breturns_23 : List RI := [(.aload_n 0, 1, 0, 0, []), (.bipush 11, 2, 0, 0, []), (.iload_n 2, 1, 0, 2, []), (.invokevirtual 672, 3, 2, 70, [])]
def Breturns_30 : List RI := [(.return_, 1, 0, 0, [])]
def Breturns_31 : List RI := [(.aload_n 0, 1, 0, 0, []), (.dup, 1, 0, 0, []), (.getfield 656, 3, 0, 69, []), (.iconst 1, 1, 0, 0, []), (.isub, 1, 0, 0, []), (.putfield 656, 3, 0, 69, []), (.aload_n 0, 1, 0, 0, []), (.aload_n 0, 1, 0, 0, []), (.getfield 656, 3, 0, 69, []), (.invokevirtual 666, 3, 1, 79, []), (.ifCond .eq 4, 3, 0, 53, [])]
def Breturns_52 : List RI := [(.return_, 1, 0, 0, [])]
def Breturns_53 : List RI := [(.iload_n 3, 1, 0, 3, []), (.iconst 5, 1, 0, 0, []), (.if_icmp .ne 13, 3, 0, 68, [])]
def Breturns_58 : List RI := [(.aload_n 0, 1, 0, 0, []), (.bipush 11, 2, 0, 0, []), (.iload_n 2, 1, 0, 2, []), (.invokevirtual 672, 3, 2, 70, []), (.goto 29, 3, 0, 94, [])]
def Breturns_68 : List RI := [(.aload_n 0, 1, 0, 0, []), (.aload_n 0, 1, 0, 0, []), (.getfield 656, 3, 0, 69, []), (.iload_n 3, 1, 0, 3, []), (.invokevirtual 766, 3, 2, 75, []), (.ifCond .ne 17, 3, 0, 94, [])]
def Breturns_80 : List RI := [(.aload_n 0, 1, 0, 0, []), (.iconst 5, 1, 0, 0, []), (.aload_n 0, 1, 0, 0, []), (.getfield 162, 3, 3, 73, []), (.aload_n 0, 1, 0, 0, []), (.getfield 656, 3, 0, 69, []), (.iaload, 1, 0, 0, []), (.invokevirtual 672, 3, 2, 70, [])]
def Breturns_94 : List RI := [(.return_, 1, 0, 0, [])]
def Breturns : RB := [(0, Breturns_0), (18, Breturns_18), (23, Breturns_23), (30, Breturns_30), (31, Breturns_31), (52, Breturns_52), (53, Breturns_53), (58, Breturns_58), (68, Breturns_68), (80, Breturns_80), (94, Breturns_94)]
set_option maxRecDepth 100000 in
theorem okBreturns : rokM cX12_returns 4 none Breturns = true := by sorry
def BlateErr_0 : List RI := [(.aload_n 0, 1, 0, 0, []), (.getfield 16, 3, 3, 4, []), (.iload_n 2, 1, 0, 2, []), (.iaload, 1, 0, 0, []), (.istore_n 3, 1, 0, 3, []), (.aload_n 0, 1, 0, 0, []), (.getfield 796, 3, 0, 112, []), (.ifCond .eq 28, 3, 0, 39, [])]
def BlateErr_14 : List RI := [(.aload_n 0, 1, 0, 0, []), (.getfield 799, 3, 0, 113, []), (.iload_n 3, 1, 0, 3, []), (.if_icmp .lt 19, 3, 0, 38, [])]
def BlateErr_22 : List RI := [(.aload_n 0, 1, 0, 0, []), (.getfield 799, 3, 0, 113, []), (.iload_n 3, 1, 0, 3, []), (.if_icmp .ne 12, 3, 0, 39, [])]
def BlateErr_30 : List RI := [(.aload_n 0, 1, 0, 0, []), (.getfield 796, 3, 0, 112, []), (.iload_n 1, 1, 0, 1, []), (.if_icmp .gt 4, 3, 0, 39, [])]
def BlateErr_38 : List RI := [(.return_, 1, 0, 0, [])]
def BlateErr_39 : List RI := [(.aload_n 0, 1, 0, 0, []), (.iload_n 1, 1, 0, 1, []), (.putfield 796, 3, 0, 112, []), (.aload_n 0, 1, 0, 0, []), (.iload_n 3, 1, 0, 3, []), (.putfield 799, 3, 0, 113, []), (.return_, 1, 0, 0, [])]
def BlateErr : RB := [(0, BlateErr_0), (14, BlateErr_14), (22, BlateErr_22), (30, BlateErr_30), (38, BlateErr_38), (39, BlateErr_39)]
set_option maxRecDepth 100000 in
theorem okBlateErr : rokM cX12_lateErr 4 none BlateErr = true := by sorry
def Bnow_0 : List RI := [(.aload_n 0, 1, 0, 0, []), (.getfield 802, 3, 2, 93, []), (.aload_n 0, 1, 0, 0, []), (.getfield 806, 3, 2, 94, []), (.land, 1, 0, 0, []), (.lreturn, 1, 0, 0, [])]
def Bnow : RB := [(0, Bnow_0)]
set_option maxRecDepth 100000 in
theorem okBnow : rokM cX12_now 1 (some .long) Bnow = true := by sorry
def Bbe_0 : List RI := [(.aload_n 0, 1, 0, 0, []), (.lload_n 1, 1, 0, 1, []), (.putfield 802, 3, 2, 93, []), (.aload_n 0, 1, 0, 0, []), (.lload_n 1, 1, 0, 1, []), (.putfield 806, 3, 2, 94, []), (.return_, 1, 0, 0, [])]
def Bbe : RB := [(0, Bbe_0)]
set_option maxRecDepth 100000 in
theorem okBbe : rokM cX12_be 3 none Bbe = true := by sorry
def Bflow_0 : List RI := [(.aload_n 0, 1, 0, 0, []), (.iconst 0, 1, 0, 0, []), (.putfield 796, 3, 0, 112, []), (.aload_n 0, 1, 0, 0, []), (.iconst 0, 1, 0, 0, []), (.putfield 809, 3, 0, 114, []), (.iconst 0, 1, 0, 0, []), (.istore_n 1, 1, 0, 1, [])]
def Bflow_12 : List RI := [(.iload_n 1, 1, 0, 1, []), (.aload_n 0, 1, 0, 0, []), (.getfield 323, 3, 0, 2, []), (.if_icmp .ge 16, 3, 0, 33, [])]
def Bflow_20 : List RI := [(.aload_n 0, 1, 0, 0, []), (.getfield 246, 3, 4, 109, []), (.iload_n 1, 1, 0, 1, []), (.iconst 0, 1, 0, 0, []), (.bastore, 1, 0, 0, []), (.iinc 1 1, 3, 0, 0, []), (.goto (-18), 3, 0, 12, [])]
def Bflow_33 : List RI := [(.aload_n 0, 1, 0, 0, []), (.iconst 0, 1, 0, 0, []), (.putfield 812, 3, 0, 103, []), (.aload_n 0, 1, 0, 0, []), (.iconst 0, 1, 0, 0, []), (.putfield 815, 3, 0, 100, []), (.aload_n 0, 1, 0, 0, []), (.bipush (-2), 2, 0, 0, []), (.putfield 818, 3, 0, 117, []), (.iconst 0, 1, 0, 0, []), (.istore_n 1, 1, 0, 1, []), (.aload_n 0, 1, 0, 0, []), (.iload_n 1, 1, 0, 1, []), (.invokevirtual 821, 3, 1, 114, []), (.iconst 0, 1, 0, 0, []), (.istore_n 2, 1, 0, 2, [])]
def Bflow_58 : List RI := [(.iload_n 2, 1, 0, 2, []), (.aload_n 0, 1, 0, 0, []), (.getfield 433, 3, 0, 18, []), (.if_icmp .ge 59, 3, 0, 122, [])]
def Bflow_66 : List RI := [(.aload_n 0, 1, 0, 0, []), (.getfield 42, 3, 3, 19, []), (.iload_n 2, 1, 0, 2, []), (.iaload, 1, 0, 0, []), (.bipush 18, 2, 0, 0, []), (.if_icmp .gt 14, 3, 0, 88, [])]
def Bflow_77 : List RI := [(.aload_n 0, 1, 0, 0, []), (.iload_n 2, 1, 0, 2, []), (.invokevirtual 824, 3, 1, 117, []), (.iinc 2 1, 3, 0, 0, []), (.goto (-27), 3, 0, 58, [])]
def Bflow_88 : List RI := [(.aload_n 0, 1, 0, 0, []), (.iload_n 2, 1, 0, 2, []), (.invokevirtual 827, 3, 1, 121, []), (.istore_n 2, 1, 0, 2, []), (.iload_n 2, 1, 0, 2, []), (.ifCond .le (-37), 3, 0, 58, [])]
def Bflow_98 : List RI := [(.aload_n 0, 1, 0, 0, []), (.getfield 42, 3, 3, 19, []), (.iload_n 2, 1, 0, 2, []), (.iconst 1, 1, 0, 0, []), (.isub, 1, 0, 0, []), (.iaload, 1, 0, 0, []), (.bipush 54, 2, 0, 0, []), (.if_icmp .ne (-50), 3, 0, 58, [])]
def Bflow_111 : List RI := [(.iinc 1 1, 3, 0, 0, []), (.aload_n 0, 1, 0, 0, []), (.iload_n 1, 1, 0, 1, []), (.invokevirtual 821, 3, 1, 114, []), (.goto (-61), 3, 0, 58, [])]
def Bflow_122 : List RI := [(.aload_n 0, 1, 0, 0, []), (.getfield 796, 3, 0, 112, []), (.ifCond .eq 22, 3, 0, 148, [])]
def Bflow_129 : List RI := [(.aload_n 0, 1, 0, 0, []), (.aload_n 0, 1, 0, 0, []), (.getfield 796, 3, 0, 112, []), (.putfield 634, 3, 0, 66, []), (.aload_n 0, 1, 0, 0, []), (.aload_n 0, 1, 0, 0, []), (.getfield 799, 3, 0, 113, []), (.putfield 637, 3, 0, 67, []), (.goto 24, 3, 0, 169, [])]
def Bflow_148 : List RI := [(.aload_n 0, 1, 0, 0, []), (.getfield 809, 3, 0, 114, []), (.ifCond .eq 17, 3, 0, 169, [])]
def Bflow_155 : List RI := [(.aload_n 0, 1, 0, 0, []), (.bipush 15, 2, 0, 0, []), (.putfield 634, 3, 0, 66, []), (.aload_n 0, 1, 0, 0, []), (.aload_n 0, 1, 0, 0, []), (.getfield 830, 3, 0, 115, []), (.putfield 637, 3, 0, 67, [])]
def Bflow_169 : List RI := [(.return_, 1, 0, 0, [])]
def Bflow : RB := [(0, Bflow_0), (12, Bflow_12), (20, Bflow_20), (33, Bflow_33), (58, Bflow_58), (66, Bflow_66), (77, Bflow_77), (88, Bflow_88), (98, Bflow_98), (111, Bflow_111), (122, Bflow_122), (129, Bflow_129), (148, Bflow_148), (155, Bflow_155), (169, Bflow_169)]
set_option maxRecDepth 100000 in
theorem okBflow : rokM cX12_flow 3 none Bflow = true := by sorry
def Bstart_0 : List RI := [(.aload_n 0, 1, 0, 0, []), (.iconst 1, 1, 0, 0, []), (.putfield 833, 3, 1, 92, []), (.lconst 0, 1, 0, 0, []), (.lstore_n 2, 1, 0, 2, []), (.iconst 0, 1, 0, 0, []), (.istore 4, 2, 0, 0, [])]
def Bstart_10 : List RI := [(.iload 4, 2, 0, 0, []), (.aload_n 0, 1, 0, 0, []), (.getfield 519, 3, 0, 42, []), (.if_icmp .ge 53, 3, 0, 69, [])]
def Bstart_19 : List RI := [(.iload_n 1, 1, 0, 1, []), (.aload_n 0, 1, 0, 0, []), (.getfield 516, 3, 0, 36, []), (.if_icmp .ge 39, 3, 0, 63, [])]
def Bstart_27 : List RI := [(.aload_n 0, 1, 0, 0, []), (.getfield 99, 3, 3, 46, []), (.iload 4, 2, 0, 0, []), (.iaload, 1, 0, 0, []), (.iload_n 1, 1, 0, 1, []), (.if_icmp .ne 28, 3, 0, 63, [])]
def Bstart_38 : List RI := [(.iload 4, 2, 0, 0, []), (.aload_n 0, 1, 0, 0, []), (.getfield 84, 3, 3, 40, []), (.iload_n 1, 1, 0, 1, []), (.iaload, 1, 0, 0, []), (.aload_n 0, 1, 0, 0, []), (.getfield 81, 3, 3, 39, []), (.iload_n 1, 1, 0, 1, []), (.iaload, 1, 0, 0, []), (.iadd, 1, 0, 0, []), (.if_icmp .ge 10, 3, 0, 63, [])]
def Bstart_56 : List RI := [(.lload_n 2, 1, 0, 2, []), (.lconst 1, 1, 0, 0, []), (.iload 4, 2, 0, 0, []), (.lshl, 1, 0, 0, []), (.lor, 1, 0, 0, []), (.lstore_n 2, 1, 0, 2, [])]
def Bstart_63 : List RI := [(.iinc 4 1, 3, 0, 0, []), (.goto (-56), 3, 0, 10, [])]
def Bstart_69 : List RI := [(.aload_n 0, 1, 0, 0, []), (.lload_n 2, 1, 0, 2, []), (.invokevirtual 836, 3, 1, 112, []), (.return_, 1, 0, 0, [])]
def Bstart : RB := [(0, Bstart_0), (10, Bstart_10), (19, Bstart_19), (27, Bstart_27), (38, Bstart_38), (56, Bstart_56), (63, Bstart_63), (69, Bstart_69)]
set_option maxRecDepth 100000 in
theorem okBstart : rokM cX12_start 5 none Bstart = true := by sorry
def Bvalue_0 : List RI := [(.aload_n 0, 1, 0, 0, []), (.invokevirtual 840, 3, 0, 111, []), (.iload_n 2, 1, 0, 2, []), (.lshr, 1, 0, 0, []), (.lconst 1, 1, 0, 0, []), (.land, 1, 0, 0, []), (.lconst 1, 1, 0, 0, []), (.lcmp, 1, 0, 0, []), (.ifCond .ne 4, 3, 0, 14, [])]
def Bvalue_13 : List RI := [(.return_, 1, 0, 0, [])]
def Bvalue_14 : List RI := [(.aload_n 0, 1, 0, 0, []), (.getfield 809, 3, 0, 114, []), (.ifCond .eq 16, 3, 0, 34, [])]
def Bvalue_21 : List RI := [(.aload_n 0, 1, 0, 0, []), (.getfield 16, 3, 3, 4, []), (.iload_n 1, 1, 0, 1, []), (.iaload, 1, 0, 0, []), (.aload_n 0, 1, 0, 0, []), (.getfield 830, 3, 0, 115, []), (.if_icmp .ge 19, 3, 0, 50, [])]
def Bvalue_34 : List RI := [(.aload_n 0, 1, 0, 0, []), (.bipush 15, 2, 0, 0, []), (.putfield 809, 3, 0, 114, []), (.aload_n 0, 1, 0, 0, []), (.aload_n 0, 1, 0, 0, []), (.getfield 16, 3, 3, 4, []), (.iload_n 1, 1, 0, 1, []), (.iaload, 1, 0, 0, []), (.putfield 830, 3, 0, 115, [])]
def Bvalue_50 : List RI := [(.return_, 1, 0, 0, [])]
def Bvalue : RB := [(0, Bvalue_0), (13, Bvalue_13), (14, Bvalue_14), (21, Bvalue_21), (34, Bvalue_34), (50, Bvalue_50)]
set_option maxRecDepth 100000 in
theorem okBvalue : rokM cX12_value 3 none Bvalue = true := by sorry
def Bsided_0 : List RI := [(.aload_n 0, 1, 0, 0, []), (.invokevirtual 840, 3, 0, 111, []), (.lstore_n 2, 1, 0, 2, []), (.aload_n 0, 1, 0, 0, []), (.lload_n 2, 1, 0, 2, []), (.invokevirtual 836, 3, 1, 112, []), (.aload_n 0, 1, 0, 0, []), (.getfield 183, 3, 3, 81, []), (.iload_n 1, 1, 0, 1, []), (.iaload, 1, 0, 0, []), (.ifCond .ne 12, 3, 0, 28, [])]
def Bsided_19 : List RI := [(.aload_n 0, 1, 0, 0, []), (.getfield 192, 3, 4, 84, []), (.iload_n 1, 1, 0, 1, []), (.baload, 1, 0, 0, []), (.ifCond .ne 4, 3, 0, 29, [])]
def Bsided_28 : List RI := [(.return_, 1, 0, 0, [])]
def Bsided_29 : List RI := [(.aload_n 0, 1, 0, 0, []), (.getfield 195, 3, 5, 85, []), (.iload_n 1, 1, 0, 1, []), (.laload, 1, 0, 0, []), (.lconst 0, 1, 0, 0, []), (.lcmp, 1, 0, 0, []), (.ifCond .eq 13, 3, 0, 50, [])]
def Bsided_40 : List RI := [(.aload_n 0, 1, 0, 0, []), (.ldc2_w 739, 3, (-1), 0, []), (.putfield 806, 3, 2, 94, []), (.goto 10, 3, 0, 57, [])]
def Bsided_50 : List RI := [(.aload_n 0, 1, 0, 0, []), (.ldc2_w 739, 3, (-1), 0, []), (.putfield 802, 3, 2, 93, [])]
def Bsided_57 : List RI := [(.return_, 1, 0, 0, [])]
def Bsided : RB := [(0, Bsided_0), (19, Bsided_19), (28, Bsided_28), (29, Bsided_29), (40, Bsided_40), (50, Bsided_50), (57, Bsided_57)]
set_option maxRecDepth 100000 in
theorem okBsided : rokM cX12_sided 4 none Bsided = true := by sorry
def BflowExp_0 : List RI := [(.aload_n 0, 1, 0, 0, []), (.getfield 42, 3, 3, 19, []), (.iload_n 1, 1, 0, 1, []), (.iaload, 1, 0, 0, []), (.tableswitch 504 2 17 #[78, 128, 128, 153, 504, 504, 190, 222, 251, 283, 312, 344, 394, 189, 458, 486], 78, 0, 510, [(2, 84), (3, 134), (4, 134), (5, 159), (6, 510), (7, 510), (8, 196), (9, 228), (10, 257), (11, 289), (12, 318), (13, 350), (14, 400), (15, 195), (16, 464), (17, 492)])]
def BflowExp_84 : List RI := [(.aload_n 0, 1, 0, 0, []), (.getfield 96, 3, 4, 45, []), (.aload_n 0, 1, 0, 0, []), (.getfield 189, 3, 3, 83, []), (.iload_n 1, 1, 0, 1, []), (.iaload, 1, 0, 0, []), (.baload, 1, 0, 0, []), (.ifCond .eq 17, 3, 0, 112, [])]
def BflowExp_98 : List RI := [(.aload_n 0, 1, 0, 0, []), (.getfield 198, 3, 4, 86, []), (.aload_n 0, 1, 0, 0, []), (.getfield 189, 3, 3, 83, []), (.iload_n 1, 1, 0, 1, []), (.iaload, 1, 0, 0, []), (.baload, 1, 0, 0, []), (.ifCond .ne 19, 3, 0, 128, [])]
def BflowExp_112 : List RI := [(.aload_n 0, 1, 0, 0, []), (.aload_n 0, 1, 0, 0, []), (.getfield 51, 3, 3, 22, []), (.iload_n 1, 1, 0, 1, []), (.iaload, 1, 0, 0, []), (.aload_n 0, 1, 0, 0, []), (.getfield 189, 3, 3, 83, []), (.iload_n 1, 1, 0, 1, []), (.iaload, 1, 0, 0, []), (.invokevirtual 844, 3, 2, 115, [])]
def BflowExp_128 : List RI := [(.aload_n 0, 1, 0, 0, []), (.iload_n 1, 1, 0, 1, []), (.invokevirtual 847, 3, 1, 116, []), (.return_, 1, 0, 0, [])]
def BflowExp_134 : List RI := [(.aload_n 0, 1, 0, 0, []), (.aload_n 0, 1, 0, 0, []), (.getfield 51, 3, 3, 22, []), (.iload_n 1, 1, 0, 1, []), (.iaload, 1, 0, 0, []), (.aload_n 0, 1, 0, 0, []), (.getfield 189, 3, 3, 83, []), (.iload_n 1, 1, 0, 1, []), (.iaload, 1, 0, 0, []), (.invokevirtual 844, 3, 2, 115, []), (.aload_n 0, 1, 0, 0, []), (.aload_n 0, 1, 0, 0, []), (.invokevirtual 840, 3, 0, 111, []), (.invokevirtual 836, 3, 1, 112, []), (.return_, 1, 0, 0, [])]
def BflowExp_159 : List RI := [(.aload_n 0, 1, 0, 0, []), (.getfield 45, 3, 3, 20, []), (.iload_n 1, 1, 0, 1, []), (.iaload, 1, 0, 0, []), (.bipush 33, 2, 0, 0, []), (.if_icmp .eq 9, 3, 0, 176, [])]
def BflowExp_170 : List RI := [(.aload_n 0, 1, 0, 0, []), (.iload_n 1, 1, 0, 1, []), (.invokevirtual 847, 3, 1, 116, []), (.return_, 1, 0, 0, [])]
def BflowExp_176 : List RI := [(.aload_n 0, 1, 0, 0, []), (.getfield 802, 3, 2, 93, []), (.lstore_n 2, 1, 0, 2, []), (.aload_n 0, 1, 0, 0, []), (.aload_n 0, 1, 0, 0, []), (.getfield 806, 3, 2, 94, []), (.putfield 802, 3, 2, 93, []), (.aload_n 0, 1, 0, 0, []), (.lload_n 2, 1, 0, 2, []), (.putfield 806, 3, 2, 94, []), (.return_, 1, 0, 0, [])]
def BflowExp_195 : List RI := [(.return_, 1, 0, 0, [])]
def BflowExp_196 : List RI := [(.aload_n 0, 1, 0, 0, []), (.getfield 228, 3, 5, 102, []), (.aload_n 0, 1, 0, 0, []), (.getfield 815, 3, 0, 100, []), (.aload_n 0, 1, 0, 0, []), (.getfield 806, 3, 2, 94, []), (.lastore, 1, 0, 0, []), (.aload_n 0, 1, 0, 0, []), (.dup, 1, 0, 0, []), (.getfield 815, 3, 0, 100, []), (.iconst 1, 1, 0, 0, []), (.iadd, 1, 0, 0, []), (.putfield 815, 3, 0, 100, []), (.aload_n 0, 1, 0, 0, []), (.aload_n 0, 1, 0, 0, []), (.getfield 802, 3, 2, 93, []), (.invokevirtual 836, 3, 1, 112, []), (.return_, 1, 0, 0, [])]
def BflowExp_228 : List RI := [(.aload_n 0, 1, 0, 0, []), (.dup, 1, 0, 0, []), (.getfield 815, 3, 0, 100, []), (.iconst 1, 1, 0, 0, []), (.isub, 1, 0, 0, []), (.putfield 815, 3, 0, 100, []), (.aload_n 0, 1, 0, 0, []), (.aload_n 0, 1, 0, 0, []), (.getfield 806, 3, 2, 94, []), (.aload_n 0, 1, 0, 0, []), (.getfield 228, 3, 5, 102, []), (.aload_n 0, 1, 0, 0, []), (.getfield 815, 3, 0, 100, []), (.laload, 1, 0, 0, []), (.land, 1, 0, 0, []), (.putfield 806, 3, 2, 94, []), (.return_, 1, 0, 0, [])]
def BflowExp_257 : List RI := [(.aload_n 0, 1, 0, 0, []), (.getfield 225, 3, 5, 101, []), (.aload_n 0, 1, 0, 0, []), (.getfield 815, 3, 0, 100, []), (.aload_n 0, 1, 0, 0, []), (.getfield 802, 3, 2, 93, []), (.lastore, 1, 0, 0, []), (.aload_n 0, 1, 0, 0, []), (.dup, 1, 0, 0, []), (.getfield 815, 3, 0, 100, []), (.iconst 1, 1, 0, 0, []), (.iadd, 1, 0, 0, []), (.putfield 815, 3, 0, 100, []), (.aload_n 0, 1, 0, 0, []), (.aload_n 0, 1, 0, 0, []), (.getfield 806, 3, 2, 94, []), (.invokevirtual 836, 3, 1, 112, []), (.return_, 1, 0, 0, [])]
def BflowExp_289 : List RI := [(.aload_n 0, 1, 0, 0, []), (.dup, 1, 0, 0, []), (.getfield 815, 3, 0, 100, []), (.iconst 1, 1, 0, 0, []), (.isub, 1, 0, 0, []), (.putfield 815, 3, 0, 100, []), (.aload_n 0, 1, 0, 0, []), (.aload_n 0, 1, 0, 0, []), (.getfield 802, 3, 2, 93, []), (.aload_n 0, 1, 0, 0, []), (.getfield 225, 3, 5, 101, []), (.aload_n 0, 1, 0, 0, []), (.getfield 815, 3, 0, 100, []), (.laload, 1, 0, 0, []), (.land, 1, 0, 0, []), (.putfield 802, 3, 2, 93, []), (.return_, 1, 0, 0, [])]
def BflowExp_318 : List RI := [(.aload_n 0, 1, 0, 0, []), (.getfield 228, 3, 5, 102, []), (.aload_n 0, 1, 0, 0, []), (.getfield 815, 3, 0, 100, []), (.aload_n 0, 1, 0, 0, []), (.getfield 806, 3, 2, 94, []), (.lastore, 1, 0, 0, []), (.aload_n 0, 1, 0, 0, []), (.dup, 1, 0, 0, []), (.getfield 815, 3, 0, 100, []), (.iconst 1, 1, 0, 0, []), (.iadd, 1, 0, 0, []), (.putfield 815, 3, 0, 100, []), (.aload_n 0, 1, 0, 0, []), (.aload_n 0, 1, 0, 0, []), (.getfield 802, 3, 2, 93, []), (.invokevirtual 836, 3, 1, 112, []), (.return_, 1, 0, 0, [])]
def BflowExp_350 : List RI := [(.aload_n 0, 1, 0, 0, []), (.getfield 228, 3, 5, 102, []), (.aload_n 0, 1, 0, 0, []), (.getfield 815, 3, 0, 100, []), (.iconst 1, 1, 0, 0, []), (.isub, 1, 0, 0, []), (.laload, 1, 0, 0, []), (.lstore 4, 2, 0, 0, []), (.aload_n 0, 1, 0, 0, []), (.getfield 225, 3, 5, 101, []), (.aload_n 0, 1, 0, 0, []), (.getfield 815, 3, 0, 100, []), (.iconst 1, 1, 0, 0, []), (.isub, 1, 0, 0, []), (.aload_n 0, 1, 0, 0, []), (.getfield 802, 3, 2, 93, []), (.lastore, 1, 0, 0, []), (.aload_n 0, 1, 0, 0, []), (.getfield 228, 3, 5, 102, []), (.aload_n 0, 1, 0, 0, []), (.getfield 815, 3, 0, 100, []), (.iconst 1, 1, 0, 0, []), (.isub, 1, 0, 0, []), (.aload_n 0, 1, 0, 0, []), (.getfield 806, 3, 2, 94, []), (.lastore, 1, 0, 0, []), (.aload_n 0, 1, 0, 0, []), (.lload 4, 2, 0, 0, []), (.invokevirtual 836, 3, 1, 112, []), (.return_, 1, 0, 0, [])]
def BflowExp_400 : List RI := [(.aload_n 0, 1, 0, 0, []), (.dup, 1, 0, 0, []), (.getfield 815, 3, 0, 100, []), (.iconst 1, 1, 0, 0, []), (.isub, 1, 0, 0, []), (.putfield 815, 3, 0, 100, []), (.aload_n 0, 1, 0, 0, []), (.aload_n 0, 1, 0, 0, []), (.getfield 802, 3, 2, 93, []), (.aload_n 0, 1, 0, 0, []), (.getfield 225, 3, 5, 101, []), (.aload_n 0, 1, 0, 0, []), (.getfield 815, 3, 0, 100, []), (.laload, 1, 0, 0, []), (.land, 1, 0, 0, []), (.putfield 802, 3, 2, 93, []), (.aload_n 0, 1, 0, 0, []), (.aload_n 0, 1, 0, 0, []), (.getfield 806, 3, 2, 94, []), (.aload_n 0, 1, 0, 0, []), (.getfield 228, 3, 5, 102, []), (.aload_n 0, 1, 0, 0, []), (.getfield 815, 3, 0, 100, []), (.laload, 1, 0, 0, []), (.land, 1, 0, 0, []), (.putfield 806, 3, 2, 94, []), (.aload_n 0, 1, 0, 0, []), (.getfield 183, 3, 3, 81, []), (.iload_n 1, 1, 0, 1, []), (.iaload, 1, 0, 0, []), (.ifCond .eq 11, 3, 0, 463, [])]
def BflowExp_455 : List RI := [(.aload_n 0, 1, 0, 0, []), (.aload_n 0, 1, 0, 0, []), (.invokevirtual 840, 3, 0, 111, []), (.invokevirtual 836, 3, 1, 112, [])]
def BflowExp_463 : List RI := [(.return_, 1, 0, 0, [])]
def BflowExp_464 : List RI := [(.aload_n 0, 1, 0, 0, []), (.iload_n 1, 1, 0, 1, []), (.invokevirtual 850, 3, 1, 118, []), (.istore 6, 2, 0, 0, []), (.aload_n 0, 1, 0, 0, []), (.aload_n 0, 1, 0, 0, []), (.getfield 51, 3, 3, 22, []), (.iload_n 1, 1, 0, 1, []), (.iaload, 1, 0, 0, []), (.iload 6, 2, 0, 0, []), (.invokevirtual 844, 3, 2, 115, []), (.aload_n 0, 1, 0, 0, []), (.aload_n 0, 1, 0, 0, []), (.invokevirtual 840, 3, 0, 111, []), (.invokevirtual 836, 3, 1, 112, []), (.return_, 1, 0, 0, [])]
def BflowExp_492 : List RI := [(.aload_n 0, 1, 0, 0, []), (.aload_n 0, 1, 0, 0, []), (.invokevirtual 840, 3, 0, 111, []), (.lconst 1, 1, 0, 0, []), (.aload_n 0, 1, 0, 0, []), (.getfield 189, 3, 3, 83, []), (.iload_n 1, 1, 0, 1, []), (.iaload, 1, 0, 0, []), (.lshl, 1, 0, 0, []), (.lor, 1, 0, 0, []), (.invokevirtual 836, 3, 1, 112, []), (.return_, 1, 0, 0, [])]
def BflowExp_510 : List RI := [(.aload_n 0, 1, 0, 0, []), (.iload_n 1, 1, 0, 1, []), (.invokevirtual 847, 3, 1, 116, []), (.return_, 1, 0, 0, [])]
def BflowExp : RB := [(0, BflowExp_0), (84, BflowExp_84), (98, BflowExp_98), (112, BflowExp_112), (128, BflowExp_128), (134, BflowExp_134), (159, BflowExp_159), (170, BflowExp_170), (176, BflowExp_176), (195, BflowExp_195), (196, BflowExp_196), (228, BflowExp_228), (257, BflowExp_257), (289, BflowExp_289), (318, BflowExp_318), (350, BflowExp_350), (400, BflowExp_400), (455, BflowExp_455), (463, BflowExp_463), (464, BflowExp_464), (492, BflowExp_492), (510, BflowExp_510)]
set_option maxRecDepth 100000 in
theorem swflowExp_6 : decode cX12_flowExp 6 = .ok (.tableswitch 504 2 17 #[78, 128, 128, 153, 504, 504, 190, 222, 251, 283, 312, 344, 394, 189, 458, 486], 78) := by sorry
set_option maxRecDepth 100000 in
theorem okBflowExp : rokM cX12_flowExp 7 none BflowExp = true := by sorry
def BfindAt_0 : List RI := [(.aload_n 0, 1, 0, 0, []), (.getfield 180, 3, 3, 80, []), (.aload_n 0, 1, 0, 0, []), (.getfield 51, 3, 3, 22, []), (.iload_n 1, 1, 0, 1, []), (.iaload, 1, 0, 0, []), (.iaload, 1, 0, 0, []), (.ireturn, 1, 1, 0, [])]
def BfindAt : RB := [(0, BfindAt_0)]
set_option maxRecDepth 100000 in
theorem okBfindAt : rokM cX12_findAt 2 (some .int) BfindAt = true := by sorry
def Bcome_0 : List RI := [(.ldc2_w 739, 3, (-1), 0, []), (.lstore_n 3, 1, 0, 3, []), (.aload_n 0, 1, 0, 0, []), (.iconst 0, 1, 0, 0, []), (.putfield 853, 3, 1, 116, []), (.iconst 0, 1, 0, 0, []), (.istore 5, 2, 0, 0, [])]
def Bcome_12 : List RI := [(.iload 5, 2, 0, 0, []), (.aload_n 0, 1, 0, 0, []), (.getfield 812, 3, 0, 103, []), (.if_icmp .ge 79, 3, 0, 97, [])]
def Bcome_21 : List RI := [(.aload_n 0, 1, 0, 0, []), (.getfield 231, 3, 3, 104, []), (.iload 5, 2, 0, 0, []), (.iaload, 1, 0, 0, []), (.iload_n 1, 1, 0, 1, []), (.if_icmp .ne 62, 3, 0, 91, [])]
def Bcome_32 : List RI := [(.aload_n 0, 1, 0, 0, []), (.getfield 234, 3, 4, 105, []), (.iload 5, 2, 0, 0, []), (.baload, 1, 0, 0, []), (.iload_n 2, 1, 0, 2, []), (.if_icmp .eq 6, 3, 0, 46, [])]
def Bcome_43 : List RI := [(.goto 48, 3, 0, 91, [])]
def Bcome_46 : List RI := [(.lload_n 3, 1, 0, 3, []), (.aload_n 0, 1, 0, 0, []), (.getfield 243, 3, 5, 108, []), (.iload 5, 2, 0, 0, []), (.laload, 1, 0, 0, []), (.land, 1, 0, 0, []), (.lstore_n 3, 1, 0, 3, []), (.aload_n 0, 1, 0, 0, []), (.aload_n 0, 1, 0, 0, []), (.getfield 853, 3, 1, 116, []), (.ifCond .ne 13, 3, 0, 74, [])]
def Bcome_64 : List RI := [(.aload_n 0, 1, 0, 0, []), (.getfield 240, 3, 4, 107, []), (.iload 5, 2, 0, 0, []), (.baload, 1, 0, 0, []), (.ifCond .eq 7, 3, 0, 78, [])]
def Bcome_74 : List RI := [(.iconst 1, 1, 0, 0, []), (.goto 4, 3, 0, 79, [])]
def Bcome_78 : List RI := [(.iconst 0, 1, 0, 0, [])]
def Bcome_79 : List RI := [(.putfield 853, 3, 1, 116, []), (.aload_n 0, 1, 0, 0, []), (.getfield 231, 3, 3, 104, []), (.iload 5, 2, 0, 0, []), (.bipush (-5), 2, 0, 0, []), (.iastore, 1, 0, 0, [])]
def Bcome_91 : List RI := [(.iinc 5 1, 3, 0, 0, []), (.goto (-82), 3, 0, 12, [])]
def Bcome_97 : List RI := [(.lload_n 3, 1, 0, 3, []), (.lreturn, 1, 0, 0, [])]
def Bcome : RB := [(0, Bcome_0), (12, Bcome_12), (21, Bcome_21), (32, Bcome_32), (43, Bcome_43), (46, Bcome_46), (64, Bcome_64), (74, Bcome_74), (78, Bcome_78), (79, Bcome_79), (91, Bcome_91), (97, Bcome_97)]
set_option maxRecDepth 100000 in
theorem okBcome : rokM cX12_come 6 (some .long) Bcome = true := by sorry
def Bdead_0 : List RI := [(.aload_n 0, 1, 0, 0, []), (.iconst 0, 1, 0, 0, []), (.putfield 833, 3, 1, 92, []), (.aload_n 0, 1, 0, 0, []), (.ldc2_w 739, 3, (-1), 0, []), (.invokevirtual 836, 3, 1, 112, []), (.return_, 1, 0, 0, [])]
def Bdead : RB := [(0, Bdead_0)]
set_option maxRecDepth 100000 in
theorem okBdead : rokM cX12_dead 1 none Bdead = true := by sorry
def BflowStep_0 : List RI := [(.aload_n 0, 1, 0, 0, []), (.getfield 45, 3, 3, 20, []), (.iload_n 1, 1, 0, 1, []), (.iaload, 1, 0, 0, []), (.istore_n 2, 1, 0, 2, []), (.aload_n 0, 1, 0, 0, []), (.getfield 51, 3, 3, 22, []), (.iload_n 1, 1, 0, 1, []), (.iaload, 1, 0, 0, []), (.istore_n 3, 1, 0, 3, []), (.aload_n 0, 1, 0, 0, []), (.getfield 192, 3, 4, 84, []), (.iload_n 1, 1, 0, 1, []), (.baload, 1, 0, 0, []), (.ifCond .eq 18, 3, 0, 38, [])]
def BflowStep_23 : List RI := [(.aload_n 0, 1, 0, 0, []), (.getfield 195, 3, 5, 85, []), (.iload_n 1, 1, 0, 1, []), (.laload, 1, 0, 0, []), (.lconst 0, 1, 0, 0, []), (.lcmp, 1, 0, 0, []), (.ifCond .eq 7, 3, 0, 38, [])]
def BflowStep_34 : List RI := [(.iconst 1, 1, 0, 0, []), (.goto 4, 3, 0, 39, [])]
def BflowStep_38 : List RI := [(.iconst 0, 1, 0, 0, [])]
def BflowStep_39 : List RI := [(.istore 4, 2, 0, 0, []), (.aload_n 0, 1, 0, 0, []), (.getfield 192, 3, 4, 84, []), (.iload_n 1, 1, 0, 1, []), (.baload, 1, 0, 0, []), (.ifCond .eq 18, 3, 0, 65, [])]
def BflowStep_50 : List RI := [(.aload_n 0, 1, 0, 0, []), (.getfield 195, 3, 5, 85, []), (.iload_n 1, 1, 0, 1, []), (.laload, 1, 0, 0, []), (.lconst 0, 1, 0, 0, []), (.lcmp, 1, 0, 0, []), (.ifCond .ne 7, 3, 0, 65, [])]
def BflowStep_61 : List RI := [(.iconst 1, 1, 0, 0, []), (.goto 4, 3, 0, 66, [])]
def BflowStep_65 : List RI := [(.iconst 0, 1, 0, 0, [])]
def BflowStep_66 : List RI := [(.istore 5, 2, 0, 0, []), (.aload_n 0, 1, 0, 0, []), (.getfield 42, 3, 3, 19, []), (.iload_n 1, 1, 0, 1, []), (.iaload, 1, 0, 0, []), (.tableswitch 1346 20 54 #[154, 253, 264, 304, 330, 368, 1346, 443, 486, 1346, 539, 582, 1346, 630, 1346, 700, 763, 794, 820, 820, 843, 1346, 915, 1346, 1346, 221, 956, 956, 1059, 1059, 1066, 1079, 1126, 1220, 1320], 154, 0, 1420, [(20, 228), (21, 327), (22, 338), (23, 378), (24, 404), (25, 442), (26, 1420), (27, 517), (28, 560), (29, 1420), (30, 613), (31, 656), (32, 1420), (33, 704), (34, 1420), (35, 774), (36, 837), (37, 868), (38, 894), (39, 894), (40, 917), (41, 1420), (42, 989), (43, 1420), (44, 1420), (45, 295), (46, 1030), (47, 1030), (48, 1133), (49, 1133), (50, 1140), (51, 1153), (52, 1200), (53, 1294), (54, 1394)])]
def BflowStep_228 : List RI := [(.aload_n 0, 1, 0, 0, []), (.getfield 833, 3, 1, 92, []), (.ifCond .ne 10, 3, 0, 242, [])]
def BflowStep_235 : List RI := [(.aload_n 0, 1, 0, 0, []), (.bipush 13, 2, 0, 0, []), (.iload_n 3, 1, 0, 3, []), (.invokevirtual 856, 3, 2, 110, [])]
def BflowStep_242 : List RI := [(.aload_n 0, 1, 0, 0, []), (.getfield 833, 3, 1, 92, []), (.ifCond .ne 15, 3, 0, 261, [])]
def BflowStep_249 : List RI := [(.aload_n 0, 1, 0, 0, []), (.getfield 818, 3, 0, 117, []), (.ifCond .ge 8, 3, 0, 261, [])]
def BflowStep_256 : List RI := [(.aload_n 0, 1, 0, 0, []), (.iload_n 1, 1, 0, 1, []), (.putfield 818, 3, 0, 117, [])]
def BflowStep_261 : List RI := [(.aload_n 0, 1, 0, 0, []), (.iconst 1, 1, 0, 0, []), (.putfield 833, 3, 1, 92, []), (.aload_n 0, 1, 0, 0, []), (.getfield 246, 3, 4, 109, []), (.iload_n 3, 1, 0, 3, []), (.baload, 1, 0, 0, []), (.ifCond .ne 1148, 3, 0, 1420, [])]
def BflowStep_275 : List RI := [(.aload_n 0, 1, 0, 0, []), (.getfield 246, 3, 4, 109, []), (.iload_n 3, 1, 0, 3, []), (.iconst 1, 1, 0, 0, []), (.bastore, 1, 0, 0, []), (.aload_n 0, 1, 0, 0, []), (.getfield 249, 3, 5, 110, []), (.iload_n 3, 1, 0, 3, []), (.aload_n 0, 1, 0, 0, []), (.invokevirtual 840, 3, 0, 111, []), (.lastore, 1, 0, 0, []), (.goto 1128, 3, 0, 1420, [])]
def BflowStep_295 : List RI := [(.aload_n 0, 1, 0, 0, []), (.getfield 818, 3, 0, 117, []), (.iload_n 2, 1, 0, 2, []), (.if_icmp .ne 14, 3, 0, 314, [])]
def BflowStep_303 : List RI := [(.aload_n 0, 1, 0, 0, []), (.bipush (-2), 2, 0, 0, []), (.putfield 818, 3, 0, 117, []), (.aload_n 0, 1, 0, 0, []), (.iconst 0, 1, 0, 0, []), (.putfield 833, 3, 1, 92, [])]
def BflowStep_314 : List RI := [(.aload_n 0, 1, 0, 0, []), (.getfield 252, 3, 4, 111, []), (.iload_n 3, 1, 0, 3, []), (.aload_n 0, 1, 0, 0, []), (.getfield 833, 3, 1, 92, []), (.bastore, 1, 0, 0, []), (.goto 1096, 3, 0, 1420, [])]
def BflowStep_327 : List RI := [(.aload_n 0, 1, 0, 0, []), (.aload_n 0, 1, 0, 0, []), (.invokevirtual 840, 3, 0, 111, []), (.invokevirtual 836, 3, 1, 112, []), (.goto 1085, 3, 0, 1420, [])]
def BflowStep_338 : List RI := [(.aload_n 0, 1, 0, 0, []), (.aload_n 0, 1, 0, 0, []), (.getfield 48, 3, 3, 21, []), (.iload_n 1, 1, 0, 1, []), (.iaload, 1, 0, 0, []), (.iconst 1, 1, 0, 0, []), (.if_icmp .ne 14, 3, 0, 360, [])]
def BflowStep_349 : List RI := [(.aload_n 0, 1, 0, 0, []), (.invokevirtual 840, 3, 0, 111, []), (.lconst 1, 1, 0, 0, []), (.iload_n 2, 1, 0, 2, []), (.lshl, 1, 0, 0, []), (.lor, 1, 0, 0, []), (.goto 15, 3, 0, 372, [])]
def BflowStep_360 : List RI := [(.aload_n 0, 1, 0, 0, []), (.invokevirtual 840, 3, 0, 111, []), (.lconst 1, 1, 0, 0, []), (.iload_n 2, 1, 0, 2, []), (.lshl, 1, 0, 0, []), (.ldc2_w 739, 3, (-1), 0, []), (.lxor, 1, 0, 0, []), (.land, 1, 0, 0, [])]
def BflowStep_372 : List RI := [(.invokevirtual 836, 3, 1, 112, []), (.goto 1045, 3, 0, 1420, [])]
def BflowStep_378 : List RI := [(.aload_n 0, 1, 0, 0, []), (.getfield 219, 3, 5, 98, []), (.iload_n 2, 1, 0, 2, []), (.aload_n 0, 1, 0, 0, []), (.getfield 806, 3, 2, 94, []), (.lastore, 1, 0, 0, []), (.aload_n 0, 1, 0, 0, []), (.aload_n 0, 1, 0, 0, []), (.getfield 802, 3, 2, 93, []), (.invokevirtual 836, 3, 1, 112, []), (.aload_n 0, 1, 0, 0, []), (.iconst 1, 1, 0, 0, []), (.putfield 833, 3, 1, 92, []), (.goto 1019, 3, 0, 1420, [])]
def BflowStep_404 : List RI := [(.aload_n 0, 1, 0, 0, []), (.getfield 210, 3, 4, 95, []), (.iload_n 2, 1, 0, 2, []), (.aload_n 0, 1, 0, 0, []), (.getfield 833, 3, 1, 92, []), (.bastore, 1, 0, 0, []), (.aload_n 0, 1, 0, 0, []), (.getfield 213, 3, 5, 96, []), (.iload_n 2, 1, 0, 2, []), (.aload_n 0, 1, 0, 0, []), (.invokevirtual 840, 3, 0, 111, []), (.lastore, 1, 0, 0, []), (.aload_n 0, 1, 0, 0, []), (.aload_n 0, 1, 0, 0, []), (.getfield 219, 3, 5, 98, []), (.iload_n 2, 1, 0, 2, []), (.laload, 1, 0, 0, []), (.invokevirtual 836, 3, 1, 112, []), (.aload_n 0, 1, 0, 0, []), (.iconst 1, 1, 0, 0, []), (.putfield 833, 3, 1, 92, []), (.goto 981, 3, 0, 1420, [])]
def BflowStep_442 : List RI := [(.aload_n 0, 1, 0, 0, []), (.getfield 126, 3, 3, 56, []), (.iload_n 2, 1, 0, 2, []), (.iaload, 1, 0, 0, []), (.ifCond .lt 46, 3, 0, 494, [])]
def BflowStep_451 : List RI := [(.aload_n 0, 1, 0, 0, []), (.aload_n 0, 1, 0, 0, []), (.invokevirtual 840, 3, 0, 111, []), (.aload_n 0, 1, 0, 0, []), (.getfield 213, 3, 5, 96, []), (.iload_n 2, 1, 0, 2, []), (.laload, 1, 0, 0, []), (.land, 1, 0, 0, []), (.invokevirtual 836, 3, 1, 112, []), (.aload_n 0, 1, 0, 0, []), (.aload_n 0, 1, 0, 0, []), (.getfield 833, 3, 1, 92, []), (.ifCond .ne 12, 3, 0, 483, [])]
def BflowStep_474 : List RI := [(.aload_n 0, 1, 0, 0, []), (.getfield 210, 3, 4, 95, []), (.iload_n 2, 1, 0, 2, []), (.baload, 1, 0, 0, []), (.ifCond .eq 7, 3, 0, 487, [])]
def BflowStep_483 : List RI := [(.iconst 1, 1, 0, 0, []), (.goto 4, 3, 0, 488, [])]
def BflowStep_487 : List RI := [(.iconst 0, 1, 0, 0, [])]
def BflowStep_488 : List RI := [(.putfield 833, 3, 1, 92, []), (.goto 929, 3, 0, 1420, [])]
def BflowStep_494 : List RI := [(.aload_n 0, 1, 0, 0, []), (.aload_n 0, 1, 0, 0, []), (.invokevirtual 840, 3, 0, 111, []), (.aload_n 0, 1, 0, 0, []), (.getfield 219, 3, 5, 98, []), (.iload_n 2, 1, 0, 2, []), (.laload, 1, 0, 0, []), (.land, 1, 0, 0, []), (.invokevirtual 836, 3, 1, 112, []), (.aload_n 0, 1, 0, 0, []), (.iconst 1, 1, 0, 0, []), (.putfield 833, 3, 1, 92, []), (.goto 906, 3, 0, 1420, [])]
def BflowStep_517 : List RI := [(.aload_n 0, 1, 0, 0, []), (.getfield 219, 3, 5, 98, []), (.iload_n 2, 1, 0, 2, []), (.aload_n 0, 1, 0, 0, []), (.getfield 806, 3, 2, 94, []), (.lastore, 1, 0, 0, []), (.aload_n 0, 1, 0, 0, []), (.getfield 216, 3, 4, 97, []), (.iload_n 2, 1, 0, 2, []), (.iload 4, 2, 0, 0, []), (.bastore, 1, 0, 0, []), (.aload_n 0, 1, 0, 0, []), (.aload_n 0, 1, 0, 0, []), (.getfield 802, 3, 2, 93, []), (.invokevirtual 836, 3, 1, 112, []), (.aload_n 0, 1, 0, 0, []), (.iload 5, 2, 0, 0, []), (.ifCond .ne 7, 3, 0, 553, [])]
def BflowStep_549 : List RI := [(.iconst 1, 1, 0, 0, []), (.goto 4, 3, 0, 554, [])]
def BflowStep_553 : List RI := [(.iconst 0, 1, 0, 0, [])]
def BflowStep_554 : List RI := [(.putfield 833, 3, 1, 92, []), (.goto 863, 3, 0, 1420, [])]
def BflowStep_560 : List RI := [(.aload_n 0, 1, 0, 0, []), (.iload_n 2, 1, 0, 2, []), (.iconst 1, 1, 0, 0, []), (.invokevirtual 859, 3, 2, 119, []), (.lstore 6, 2, 0, 0, []), (.aload_n 0, 1, 0, 0, []), (.aload_n 0, 1, 0, 0, []), (.getfield 219, 3, 5, 98, []), (.iload_n 2, 1, 0, 2, []), (.laload, 1, 0, 0, []), (.aload_n 0, 1, 0, 0, []), (.iload_n 2, 1, 0, 2, []), (.iconst 0, 1, 0, 0, []), (.invokevirtual 859, 3, 2, 119, []), (.land, 1, 0, 0, []), (.invokevirtual 836, 3, 1, 112, []), (.aload_n 0, 1, 0, 0, []), (.aload_n 0, 1, 0, 0, []), (.getfield 216, 3, 4, 97, []), (.iload_n 2, 1, 0, 2, []), (.baload, 1, 0, 0, []), (.ifCond .eq 10, 3, 0, 602, [])]
def BflowStep_595 : List RI := [(.aload_n 0, 1, 0, 0, []), (.getfield 853, 3, 1, 116, []), (.ifCond .eq 7, 3, 0, 606, [])]
def BflowStep_602 : List RI := [(.iconst 1, 1, 0, 0, []), (.goto 4, 3, 0, 607, [])]
def BflowStep_606 : List RI := [(.iconst 0, 1, 0, 0, [])]
def BflowStep_607 : List RI := [(.putfield 833, 3, 1, 92, []), (.goto 810, 3, 0, 1420, [])]
def BflowStep_613 : List RI := [(.aload_n 0, 1, 0, 0, []), (.aload_n 0, 1, 0, 0, []), (.invokevirtual 840, 3, 0, 111, []), (.aload_n 0, 1, 0, 0, []), (.iload_n 2, 1, 0, 2, []), (.iconst 1, 1, 0, 0, []), (.invokevirtual 859, 3, 2, 119, []), (.land, 1, 0, 0, []), (.invokevirtual 836, 3, 1, 112, []), (.aload_n 0, 1, 0, 0, []), (.getfield 210, 3, 4, 95, []), (.iload_n 2, 1, 0, 2, []), (.aload_n 0, 1, 0, 0, []), (.getfield 833, 3, 1, 92, []), (.ifCond .ne 10, 3, 0, 647, [])]
def BflowStep_640 : List RI := [(.aload_n 0, 1, 0, 0, []), (.getfield 853, 3, 1, 116, []), (.ifCond .eq 7, 3, 0, 651, [])]
def BflowStep_647 : List RI := [(.iconst 1, 1, 0, 0, []), (.goto 4, 3, 0, 652, [])]
def BflowStep_651 : List RI := [(.iconst 0, 1, 0, 0, [])]
def BflowStep_652 : List RI := [(.bastore, 1, 0, 0, []), (.goto 767, 3, 0, 1420, [])]
def BflowStep_656 : List RI := [(.aload_n 0, 1, 0, 0, []), (.aload_n 0, 1, 0, 0, []), (.getfield 806, 3, 2, 94, []), (.aload_n 0, 1, 0, 0, []), (.iload_n 2, 1, 0, 2, []), (.iconst 0, 1, 0, 0, []), (.invokevirtual 859, 3, 2, 119, []), (.land, 1, 0, 0, []), (.invokevirtual 836, 3, 1, 112, []), (.aload_n 0, 1, 0, 0, []), (.aload_n 0, 1, 0, 0, []), (.getfield 210, 3, 4, 95, []), (.iload_n 2, 1, 0, 2, []), (.baload, 1, 0, 0, []), (.ifCond .eq 8, 3, 0, 686, [])]
def BflowStep_681 : List RI := [(.iload 4, 2, 0, 0, []), (.ifCond .eq 10, 3, 0, 693, [])]
def BflowStep_686 : List RI := [(.aload_n 0, 1, 0, 0, []), (.getfield 853, 3, 1, 116, []), (.ifCond .eq 7, 3, 0, 697, [])]
def BflowStep_693 : List RI := [(.iconst 1, 1, 0, 0, []), (.goto 4, 3, 0, 698, [])]
def BflowStep_697 : List RI := [(.iconst 0, 1, 0, 0, [])]
def BflowStep_698 : List RI := [(.putfield 833, 3, 1, 92, []), (.goto 719, 3, 0, 1420, [])]
def BflowStep_704 : List RI := [(.aload_n 0, 1, 0, 0, []), (.getfield 48, 3, 3, 21, []), (.iload_n 1, 1, 0, 1, []), (.iaload, 1, 0, 0, []), (.ifCond .ne 10, 3, 0, 720, [])]
def BflowStep_713 : List RI := [(.aload_n 0, 1, 0, 0, []), (.ldc2_w 739, 3, (-1), 0, []), (.putfield 806, 3, 2, 94, [])]
def BflowStep_720 : List RI := [(.aload_n 0, 1, 0, 0, []), (.getfield 219, 3, 5, 98, []), (.iload_n 2, 1, 0, 2, []), (.aload_n 0, 1, 0, 0, []), (.getfield 806, 3, 2, 94, []), (.lastore, 1, 0, 0, []), (.aload_n 0, 1, 0, 0, []), (.getfield 216, 3, 4, 97, []), (.iload_n 2, 1, 0, 2, []), (.iload 4, 2, 0, 0, []), (.bastore, 1, 0, 0, []), (.aload_n 0, 1, 0, 0, []), (.aload_n 0, 1, 0, 0, []), (.getfield 802, 3, 2, 93, []), (.invokevirtual 836, 3, 1, 112, []), (.aload_n 0, 1, 0, 0, []), (.iload 5, 2, 0, 0, []), (.ifCond .ne 7, 3, 0, 756, [])]
def BflowStep_752 : List RI := [(.iconst 1, 1, 0, 0, []), (.goto 4, 3, 0, 757, [])]
def BflowStep_756 : List RI := [(.iconst 0, 1, 0, 0, [])]
def BflowStep_757 : List RI := [(.putfield 833, 3, 1, 92, []), (.aload_n 0, 1, 0, 0, []), (.getfield 210, 3, 4, 95, []), (.iload_n 2, 1, 0, 2, []), (.iconst 0, 1, 0, 0, []), (.bastore, 1, 0, 0, []), (.aload_n 0, 1, 0, 0, []), (.getfield 120, 3, 3, 54, []), (.iload_n 2, 1, 0, 2, []), (.iaload, 1, 0, 0, []), (.ireturn, 1, 1, 0, [])]
def BflowStep_774 : List RI := [(.aload_n 0, 1, 0, 0, []), (.getfield 210, 3, 4, 95, []), (.iload_n 2, 1, 0, 2, []), (.baload, 1, 0, 0, []), (.ifCond .ne 6, 3, 0, 786, [])]
def BflowStep_783 : List RI := [(.goto 637, 3, 0, 1420, [])]
def BflowStep_786 : List RI := [(.aload_n 0, 1, 0, 0, []), (.aload_n 0, 1, 0, 0, []), (.getfield 219, 3, 5, 98, []), (.iload_n 2, 1, 0, 2, []), (.laload, 1, 0, 0, []), (.aload_n 0, 1, 0, 0, []), (.iload_n 2, 1, 0, 2, []), (.iconst 0, 1, 0, 0, []), (.invokevirtual 859, 3, 2, 119, []), (.land, 1, 0, 0, []), (.invokevirtual 836, 3, 1, 112, []), (.aload_n 0, 1, 0, 0, []), (.aload_n 0, 1, 0, 0, []), (.getfield 216, 3, 4, 97, []), (.iload_n 2, 1, 0, 2, []), (.baload, 1, 0, 0, []), (.ifCond .eq 10, 3, 0, 820, [])]
def BflowStep_813 : List RI := [(.aload_n 0, 1, 0, 0, []), (.getfield 853, 3, 1, 116, []), (.ifCond .eq 7, 3, 0, 824, [])]
def BflowStep_820 : List RI := [(.iconst 1, 1, 0, 0, []), (.goto 4, 3, 0, 825, [])]
def BflowStep_824 : List RI := [(.iconst 0, 1, 0, 0, [])]
def BflowStep_825 : List RI := [(.putfield 833, 3, 1, 92, []), (.aload_n 0, 1, 0, 0, []), (.getfield 123, 3, 3, 55, []), (.iload_n 2, 1, 0, 2, []), (.iaload, 1, 0, 0, []), (.iconst 1, 1, 0, 0, []), (.iadd, 1, 0, 0, []), (.ireturn, 1, 1, 0, [])]
def BflowStep_837 : List RI := [(.aload_n 0, 1, 0, 0, []), (.aload_n 0, 1, 0, 0, []), (.invokevirtual 840, 3, 0, 111, []), (.aload_n 0, 1, 0, 0, []), (.iload_n 2, 1, 0, 2, []), (.iconst 1, 1, 0, 0, []), (.invokevirtual 859, 3, 2, 119, []), (.land, 1, 0, 0, []), (.invokevirtual 836, 3, 1, 112, []), (.aload_n 0, 1, 0, 0, []), (.getfield 210, 3, 4, 95, []), (.iload_n 2, 1, 0, 2, []), (.iconst 1, 1, 0, 0, []), (.bastore, 1, 0, 0, []), (.aload_n 0, 1, 0, 0, []), (.getfield 117, 3, 3, 53, []), (.iload_n 2, 1, 0, 2, []), (.iaload, 1, 0, 0, []), (.iconst 1, 1, 0, 0, []), (.iadd, 1, 0, 0, []), (.ireturn, 1, 1, 0, [])]
def BflowStep_868 : List RI := [(.aload_n 0, 1, 0, 0, []), (.aload_n 0, 1, 0, 0, []), (.invokevirtual 840, 3, 0, 111, []), (.invokevirtual 836, 3, 1, 112, []), (.aload_n 0, 1, 0, 0, []), (.getfield 213, 3, 5, 96, []), (.iload_n 2, 1, 0, 2, []), (.aload_n 0, 1, 0, 0, []), (.invokevirtual 840, 3, 0, 111, []), (.lastore, 1, 0, 0, []), (.aload_n 0, 1, 0, 0, []), (.iconst 1, 1, 0, 0, []), (.putfield 833, 3, 1, 92, []), (.goto 529, 3, 0, 1420, [])]
def BflowStep_894 : List RI := [(.aload_n 0, 1, 0, 0, []), (.aload_n 0, 1, 0, 0, []), (.invokevirtual 840, 3, 0, 111, []), (.aload_n 0, 1, 0, 0, []), (.getfield 213, 3, 5, 96, []), (.iload_n 2, 1, 0, 2, []), (.laload, 1, 0, 0, []), (.land, 1, 0, 0, []), (.invokevirtual 836, 3, 1, 112, []), (.aload_n 0, 1, 0, 0, []), (.iconst 1, 1, 0, 0, []), (.putfield 833, 3, 1, 92, []), (.goto 506, 3, 0, 1420, [])]
def BflowStep_917 : List RI := [(.aload_n 0, 1, 0, 0, []), (.aload_n 0, 1, 0, 0, []), (.invokevirtual 840, 3, 0, 111, []), (.aload_n 0, 1, 0, 0, []), (.iload_n 2, 1, 0, 2, []), (.iconst 0, 1, 0, 0, []), (.invokevirtual 859, 3, 2, 119, []), (.land, 1, 0, 0, []), (.aload_n 0, 1, 0, 0, []), (.getfield 135, 3, 3, 59, []), (.iload_n 2, 1, 0, 2, []), (.iaload, 1, 0, 0, []), (.ifCond .ge 12, 3, 0, 947, [])]
def BflowStep_938 : List RI := [(.aload_n 0, 1, 0, 0, []), (.getfield 213, 3, 5, 96, []), (.iload_n 2, 1, 0, 2, []), (.laload, 1, 0, 0, []), (.goto 6, 3, 0, 950, [])]
def BflowStep_947 : List RI := [(.ldc2_w 739, 3, (-1), 0, [])]
def BflowStep_950 : List RI := [(.land, 1, 0, 0, []), (.invokevirtual 836, 3, 1, 112, []), (.aload_n 0, 1, 0, 0, []), (.aload_n 0, 1, 0, 0, []), (.getfield 833, 3, 1, 92, []), (.ifCond .ne 19, 3, 0, 978, [])]
def BflowStep_962 : List RI := [(.aload_n 0, 1, 0, 0, []), (.getfield 853, 3, 1, 116, []), (.ifCond .ne 12, 3, 0, 978, [])]
def BflowStep_969 : List RI := [(.aload_n 0, 1, 0, 0, []), (.getfield 135, 3, 3, 59, []), (.iload_n 2, 1, 0, 2, []), (.iaload, 1, 0, 0, []), (.ifCond .ge 7, 3, 0, 982, [])]
def BflowStep_978 : List RI := [(.iconst 1, 1, 0, 0, []), (.goto 4, 3, 0, 983, [])]
def BflowStep_982 : List RI := [(.iconst 0, 1, 0, 0, [])]
def BflowStep_983 : List RI := [(.putfield 833, 3, 1, 92, []), (.goto 434, 3, 0, 1420, [])]
def BflowStep_989 : List RI := [(.aload_n 0, 1, 0, 0, []), (.aload_n 0, 1, 0, 0, []), (.invokevirtual 840, 3, 0, 111, []), (.aload_n 0, 1, 0, 0, []), (.iload_n 2, 1, 0, 2, []), (.iconst 0, 1, 0, 0, []), (.invokevirtual 859, 3, 2, 119, []), (.land, 1, 0, 0, []), (.invokevirtual 836, 3, 1, 112, []), (.aload_n 0, 1, 0, 0, []), (.aload_n 0, 1, 0, 0, []), (.getfield 833, 3, 1, 92, []), (.ifCond .ne 10, 3, 0, 1019, [])]
def BflowStep_1012 : List RI := [(.aload_n 0, 1, 0, 0, []), (.getfield 853, 3, 1, 116, []), (.ifCond .eq 7, 3, 0, 1023, [])]
def BflowStep_1019 : List RI := [(.iconst 1, 1, 0, 0, []), (.goto 4, 3, 0, 1024, [])]
def BflowStep_1023 : List RI := [(.iconst 0, 1, 0, 0, [])]
def BflowStep_1024 : List RI := [(.putfield 833, 3, 1, 92, []), (.goto 393, 3, 0, 1420, [])]
def BflowStep_1030 : List RI := [(.aload_n 0, 1, 0, 0, []), (.getfield 231, 3, 3, 104, []), (.aload_n 0, 1, 0, 0, []), (.getfield 812, 3, 0, 103, []), (.iload_n 2, 1, 0, 2, []), (.iastore, 1, 0, 0, []), (.aload_n 0, 1, 0, 0, []), (.getfield 234, 3, 4, 105, []), (.aload_n 0, 1, 0, 0, []), (.getfield 812, 3, 0, 103, []), (.aload_n 0, 1, 0, 0, []), (.getfield 42, 3, 3, 19, []), (.iload_n 1, 1, 0, 1, []), (.iaload, 1, 0, 0, []), (.bipush 47, 2, 0, 0, []), (.if_icmp .ne 7, 3, 0, 1063, [])]
def BflowStep_1059 : List RI := [(.iconst 1, 1, 0, 0, []), (.goto 4, 3, 0, 1064, [])]
def BflowStep_1063 : List RI := [(.iconst 0, 1, 0, 0, [])]
def BflowStep_1064 : List RI := [(.bastore, 1, 0, 0, []), (.aload_n 0, 1, 0, 0, []), (.getfield 237, 3, 3, 106, []), (.aload_n 0, 1, 0, 0, []), (.getfield 812, 3, 0, 103, []), (.iload_n 1, 1, 0, 1, []), (.iastore, 1, 0, 0, []), (.aload_n 0, 1, 0, 0, []), (.getfield 240, 3, 4, 107, []), (.aload_n 0, 1, 0, 0, []), (.getfield 812, 3, 0, 103, []), (.aload_n 0, 1, 0, 0, []), (.getfield 833, 3, 1, 92, []), (.ifCond .eq 14, 3, 0, 1101, [])]
def BflowStep_1090 : List RI := [(.aload_n 0, 1, 0, 0, []), (.getfield 818, 3, 0, 117, []), (.ifCond .ge 7, 3, 0, 1101, [])]
def BflowStep_1097 : List RI := [(.iconst 1, 1, 0, 0, []), (.goto 4, 3, 0, 1102, [])]
def BflowStep_1101 : List RI := [(.iconst 0, 1, 0, 0, [])]
def BflowStep_1102 : List RI := [(.bastore, 1, 0, 0, []), (.aload_n 0, 1, 0, 0, []), (.getfield 243, 3, 5, 108, []), (.aload_n 0, 1, 0, 0, []), (.getfield 812, 3, 0, 103, []), (.aload_n 0, 1, 0, 0, []), (.invokevirtual 840, 3, 0, 111, []), (.lastore, 1, 0, 0, []), (.aload_n 0, 1, 0, 0, []), (.dup, 1, 0, 0, []), (.getfield 812, 3, 0, 103, []), (.iconst 1, 1, 0, 0, []), (.iadd, 1, 0, 0, []), (.putfield 812, 3, 0, 103, []), (.aload_n 0, 1, 0, 0, []), (.invokevirtual 863, 3, 0, 120, []), (.goto 290, 3, 0, 1420, [])]
def BflowStep_1133 : List RI := [(.aload_n 0, 1, 0, 0, []), (.invokevirtual 863, 3, 0, 120, []), (.goto 283, 3, 0, 1420, [])]
def BflowStep_1140 : List RI := [(.aload_n 0, 1, 0, 0, []), (.getfield 222, 3, 5, 99, []), (.iload_n 2, 1, 0, 2, []), (.aload_n 0, 1, 0, 0, []), (.invokevirtual 840, 3, 0, 111, []), (.lastore, 1, 0, 0, []), (.goto 270, 3, 0, 1420, [])]
def BflowStep_1153 : List RI := [(.aload_n 0, 1, 0, 0, []), (.getfield 210, 3, 4, 95, []), (.iload_n 2, 1, 0, 2, []), (.aload_n 0, 1, 0, 0, []), (.getfield 833, 3, 1, 92, []), (.bastore, 1, 0, 0, []), (.aload_n 0, 1, 0, 0, []), (.getfield 213, 3, 5, 96, []), (.iload_n 2, 1, 0, 2, []), (.aload_n 0, 1, 0, 0, []), (.invokevirtual 840, 3, 0, 111, []), (.lastore, 1, 0, 0, []), (.aload_n 0, 1, 0, 0, []), (.aload_n 0, 1, 0, 0, []), (.getfield 222, 3, 5, 99, []), (.iload_n 2, 1, 0, 2, []), (.laload, 1, 0, 0, []), (.lconst 1, 1, 0, 0, []), (.aload_n 0, 1, 0, 0, []), (.getfield 141, 3, 3, 61, []), (.iload_n 2, 1, 0, 2, []), (.iaload, 1, 0, 0, []), (.lshl, 1, 0, 0, []), (.lor, 1, 0, 0, []), (.invokevirtual 836, 3, 1, 112, []), (.aload_n 0, 1, 0, 0, []), (.iconst 1, 1, 0, 0, []), (.putfield 833, 3, 1, 92, []), (.goto 223, 3, 0, 1420, [])]
def BflowStep_1200 : List RI := [(.aload_n 0, 1, 0, 0, []), (.getfield 210, 3, 4, 95, []), (.iload_n 2, 1, 0, 2, []), (.aload_n 0, 1, 0, 0, []), (.getfield 129, 3, 3, 57, []), (.iload_n 2, 1, 0, 2, []), (.iaload, 1, 0, 0, []), (.ifCond .ge 10, 3, 0, 1221, [])]
def BflowStep_1214 : List RI := [(.aload_n 0, 1, 0, 0, []), (.getfield 833, 3, 1, 92, []), (.goto 24, 3, 0, 1242, [])]
def BflowStep_1221 : List RI := [(.aload_n 0, 1, 0, 0, []), (.getfield 833, 3, 1, 92, []), (.ifCond .ne 12, 3, 0, 1237, [])]
def BflowStep_1228 : List RI := [(.aload_n 0, 1, 0, 0, []), (.getfield 210, 3, 4, 95, []), (.iload_n 2, 1, 0, 2, []), (.baload, 1, 0, 0, []), (.ifCond .eq 7, 3, 0, 1241, [])]
def BflowStep_1237 : List RI := [(.iconst 1, 1, 0, 0, []), (.goto 4, 3, 0, 1242, [])]
def BflowStep_1241 : List RI := [(.iconst 0, 1, 0, 0, [])]
def BflowStep_1242 : List RI := [(.bastore, 1, 0, 0, []), (.aload_n 0, 1, 0, 0, []), (.getfield 213, 3, 5, 96, []), (.iload_n 2, 1, 0, 2, []), (.aload_n 0, 1, 0, 0, []), (.getfield 129, 3, 3, 57, []), (.iload_n 2, 1, 0, 2, []), (.iaload, 1, 0, 0, []), (.ifCond .ge 10, 3, 0, 1264, [])]
def BflowStep_1257 : List RI := [(.aload_n 0, 1, 0, 0, []), (.invokevirtual 840, 3, 0, 111, []), (.goto 14, 3, 0, 1275, [])]
def BflowStep_1264 : List RI := [(.aload_n 0, 1, 0, 0, []), (.invokevirtual 840, 3, 0, 111, []), (.aload_n 0, 1, 0, 0, []), (.getfield 213, 3, 5, 96, []), (.iload_n 2, 1, 0, 2, []), (.laload, 1, 0, 0, []), (.land, 1, 0, 0, [])]
def BflowStep_1275 : List RI := [(.lastore, 1, 0, 0, []), (.aload_n 0, 1, 0, 0, []), (.aload_n 0, 1, 0, 0, []), (.getfield 222, 3, 5, 99, []), (.iload_n 2, 1, 0, 2, []), (.laload, 1, 0, 0, []), (.invokevirtual 836, 3, 1, 112, []), (.aload_n 0, 1, 0, 0, []), (.iconst 1, 1, 0, 0, []), (.putfield 833, 3, 1, 92, []), (.goto 129, 3, 0, 1420, [])]
def BflowStep_1294 : List RI := [(.aload_n 0, 1, 0, 0, []), (.getfield 132, 3, 3, 58, []), (.iload_n 2, 1, 0, 2, []), (.iaload, 1, 0, 0, []), (.ifCond .lt 51, 3, 0, 1351, [])]
def BflowStep_1303 : List RI := [(.aload_n 0, 1, 0, 0, []), (.iload_n 2, 1, 0, 2, []), (.invokevirtual 866, 3, 1, 122, []), (.aload_n 0, 1, 0, 0, []), (.aload_n 0, 1, 0, 0, []), (.getfield 833, 3, 1, 92, []), (.ifCond .eq 16, 3, 0, 1329, [])]
def BflowStep_1316 : List RI := [(.aload_n 0, 1, 0, 0, []), (.getfield 210, 3, 4, 95, []), (.iload_n 2, 1, 0, 2, []), (.baload, 1, 0, 0, []), (.ifCond .eq 7, 3, 0, 1329, [])]
def BflowStep_1325 : List RI := [(.iconst 1, 1, 0, 0, []), (.goto 4, 3, 0, 1330, [])]
def BflowStep_1329 : List RI := [(.iconst 0, 1, 0, 0, [])]
def BflowStep_1330 : List RI := [(.putfield 833, 3, 1, 92, []), (.aload_n 0, 1, 0, 0, []), (.aload_n 0, 1, 0, 0, []), (.invokevirtual 840, 3, 0, 111, []), (.aload_n 0, 1, 0, 0, []), (.getfield 213, 3, 5, 96, []), (.iload_n 2, 1, 0, 2, []), (.laload, 1, 0, 0, []), (.lor, 1, 0, 0, []), (.invokevirtual 836, 3, 1, 112, []), (.goto 72, 3, 0, 1420, [])]
def BflowStep_1351 : List RI := [(.aload_n 0, 1, 0, 0, []), (.aload_n 0, 1, 0, 0, []), (.getfield 833, 3, 1, 92, []), (.ifCond .ne 12, 3, 0, 1368, [])]
def BflowStep_1359 : List RI := [(.aload_n 0, 1, 0, 0, []), (.getfield 210, 3, 4, 95, []), (.iload_n 2, 1, 0, 2, []), (.baload, 1, 0, 0, []), (.ifCond .eq 7, 3, 0, 1372, [])]
def BflowStep_1368 : List RI := [(.iconst 1, 1, 0, 0, []), (.goto 4, 3, 0, 1373, [])]
def BflowStep_1372 : List RI := [(.iconst 0, 1, 0, 0, [])]
def BflowStep_1373 : List RI := [(.putfield 833, 3, 1, 92, []), (.aload_n 0, 1, 0, 0, []), (.aload_n 0, 1, 0, 0, []), (.invokevirtual 840, 3, 0, 111, []), (.aload_n 0, 1, 0, 0, []), (.getfield 213, 3, 5, 96, []), (.iload_n 2, 1, 0, 2, []), (.laload, 1, 0, 0, []), (.land, 1, 0, 0, []), (.invokevirtual 836, 3, 1, 112, []), (.goto 29, 3, 0, 1420, [])]
def BflowStep_1394 : List RI := [(.aload_n 0, 1, 0, 0, []), (.getfield 833, 3, 1, 92, []), (.ifCond .eq 22, 3, 0, 1420, [])]
def BflowStep_1401 : List RI := [(.aload_n 0, 1, 0, 0, []), (.iload_n 2, 1, 0, 2, []), (.invokevirtual 778, 3, 1, 85, []), (.iconst 5, 1, 0, 0, []), (.if_icmp .eq 13, 3, 0, 1420, [])]
def BflowStep_1410 : List RI := [(.aload_n 0, 1, 0, 0, []), (.bipush 14, 2, 0, 0, []), (.iload_n 3, 1, 0, 3, []), (.invokevirtual 856, 3, 2, 110, []), (.goto 3, 3, 0, 1420, [])]
def BflowStep_1420 : List RI := [(.iload_n 1, 1, 0, 1, []), (.iconst 1, 1, 0, 0, []), (.iadd, 1, 0, 0, []), (.ireturn, 1, 1, 0, [])]
def BflowStep : RB := [(0, BflowStep_0), (23, BflowStep_23), (34, BflowStep_34), (38, BflowStep_38), (39, BflowStep_39), (50, BflowStep_50), (61, BflowStep_61), (65, BflowStep_65), (66, BflowStep_66), (228, BflowStep_228), (235, BflowStep_235), (242, BflowStep_242), (249, BflowStep_249), (256, BflowStep_256), (261, BflowStep_261), (275, BflowStep_275), (295, BflowStep_295), (303, BflowStep_303), (314, BflowStep_314), (327, BflowStep_327), (338, BflowStep_338), (349, BflowStep_349), (360, BflowStep_360), (372, BflowStep_372), (378, BflowStep_378), (404, BflowStep_404), (442, BflowStep_442), (451, BflowStep_451), (474, BflowStep_474), (483, BflowStep_483), (487, BflowStep_487), (488, BflowStep_488), (494, BflowStep_494), (517, BflowStep_517), (549, BflowStep_549), (553, BflowStep_553), (554, BflowStep_554), (560, BflowStep_560), (595, BflowStep_595), (602, BflowStep_602), (606, BflowStep_606), (607, BflowStep_607), (613, BflowStep_613), (640, BflowStep_640), (647, BflowStep_647), (651, BflowStep_651), (652, BflowStep_652), (656, BflowStep_656), (681, BflowStep_681), (686, BflowStep_686), (693, BflowStep_693), (697, BflowStep_697), (698, BflowStep_698), (704, BflowStep_704), (713, BflowStep_713), (720, BflowStep_720), (752, BflowStep_752), (756, BflowStep_756), (757, BflowStep_757), (774, BflowStep_774), (783, BflowStep_783), (786, BflowStep_786), (813, BflowStep_813), (820, BflowStep_820), (824, BflowStep_824), (825, BflowStep_825), (837, BflowStep_837), (868, BflowStep_868), (894, BflowStep_894), (917, BflowStep_917), (938, BflowStep_938), (947, BflowStep_947), (950, BflowStep_950), (962, BflowStep_962), (969, BflowStep_969), (978, BflowStep_978), (982, BflowStep_982), (983, BflowStep_983), (989, BflowStep_989), (1012, BflowStep_1012), (1019, BflowStep_1019), (1023, BflowStep_1023), (1024, BflowStep_1024), (1030, BflowStep_1030), (1059, BflowStep_1059), (1063, BflowStep_1063), (1064, BflowStep_1064), (1090, BflowStep_1090), (1097, BflowStep_1097), (1101, BflowStep_1101), (1102, BflowStep_1102), (1133, BflowStep_1133), (1140, BflowStep_1140), (1153, BflowStep_1153), (1200, BflowStep_1200), (1214, BflowStep_1214), (1221, BflowStep_1221), (1228, BflowStep_1228), (1237, BflowStep_1237), (1241, BflowStep_1241), (1242, BflowStep_1242), (1257, BflowStep_1257), (1264, BflowStep_1264), (1275, BflowStep_1275), (1294, BflowStep_1294), (1303, BflowStep_1303), (1316, BflowStep_1316), (1325, BflowStep_1325), (1329, BflowStep_1329), (1330, BflowStep_1330), (1351, BflowStep_1351), (1359, BflowStep_1359), (1368, BflowStep_1368), (1372, BflowStep_1372), (1373, BflowStep_1373), (1394, BflowStep_1394), (1401, BflowStep_1401), (1410, BflowStep_1410), (1420, BflowStep_1420)]
set_option maxRecDepth 100000 in
theorem swflowStep_74 : decode cX12_flowStep 74 = .ok (.tableswitch 1346 20 54 #[154, 253, 264, 304, 330, 368, 1346, 443, 486, 1346, 539, 582, 1346, 630, 1346, 700, 763, 794, 820, 820, 843, 1346, 915, 1346, 1346, 221, 956, 956, 1059, 1059, 1066, 1079, 1126, 1220, 1320], 154) := by sorry
set_option maxRecDepth 100000 in
theorem okBflowStep : rokM cX12_flowStep 8 (some .int) BflowStep = true := by sorry
def Bended_0 : List RI := [(.iconst 0, 1, 0, 0, []), (.istore_n 2, 1, 0, 2, [])]
def Bended_2 : List RI := [(.iload_n 2, 1, 0, 2, []), (.aload_n 0, 1, 0, 0, []), (.getfield 812, 3, 0, 103, []), (.if_icmp .ge 108, 3, 0, 115, [])]
def Bended_10 : List RI := [(.aload_n 0, 1, 0, 0, []), (.getfield 231, 3, 3, 104, []), (.iload_n 2, 1, 0, 2, []), (.iaload, 1, 0, 0, []), (.ifCond .lt 93, 3, 0, 109, [])]
def Bended_19 : List RI := [(.aload_n 0, 1, 0, 0, []), (.getfield 237, 3, 3, 106, []), (.iload_n 2, 1, 0, 2, []), (.iaload, 1, 0, 0, []), (.aload_n 0, 1, 0, 0, []), (.getfield 111, 3, 3, 51, []), (.iload_n 1, 1, 0, 1, []), (.iaload, 1, 0, 0, []), (.if_icmp .lt 78, 3, 0, 109, [])]
def Bended_34 : List RI := [(.aload_n 0, 1, 0, 0, []), (.getfield 237, 3, 3, 106, []), (.iload_n 2, 1, 0, 2, []), (.iaload, 1, 0, 0, []), (.aload_n 0, 1, 0, 0, []), (.getfield 132, 3, 3, 58, []), (.iload_n 1, 1, 0, 1, []), (.iaload, 1, 0, 0, []), (.if_icmp .le 6, 3, 0, 52, [])]
def Bended_49 : List RI := [(.goto 60, 3, 0, 109, [])]
def Bended_52 : List RI := [(.aload_n 0, 1, 0, 0, []), (.getfield 240, 3, 4, 107, []), (.iload_n 2, 1, 0, 2, []), (.aload_n 0, 1, 0, 0, []), (.getfield 240, 3, 4, 107, []), (.iload_n 2, 1, 0, 2, []), (.baload, 1, 0, 0, []), (.ifCond .eq 14, 3, 0, 77, [])]
def Bended_66 : List RI := [(.aload_n 0, 1, 0, 0, []), (.getfield 833, 3, 1, 92, []), (.ifCond .eq 7, 3, 0, 77, [])]
def Bended_73 : List RI := [(.iconst 1, 1, 0, 0, []), (.goto 4, 3, 0, 78, [])]
def Bended_77 : List RI := [(.iconst 0, 1, 0, 0, [])]
def Bended_78 : List RI := [(.bastore, 1, 0, 0, []), (.aload_n 0, 1, 0, 0, []), (.getfield 243, 3, 5, 108, []), (.iload_n 2, 1, 0, 2, []), (.aload_n 0, 1, 0, 0, []), (.getfield 833, 3, 1, 92, []), (.ifCond .eq 17, 3, 0, 105, [])]
def Bended_91 : List RI := [(.aload_n 0, 1, 0, 0, []), (.getfield 243, 3, 5, 108, []), (.iload_n 2, 1, 0, 2, []), (.laload, 1, 0, 0, []), (.aload_n 0, 1, 0, 0, []), (.invokevirtual 840, 3, 0, 111, []), (.lor, 1, 0, 0, []), (.goto 6, 3, 0, 108, [])]
def Bended_105 : List RI := [(.ldc2_w 739, 3, (-1), 0, [])]
def Bended_108 : List RI := [(.lastore, 1, 0, 0, [])]
def Bended_109 : List RI := [(.iinc 2 1, 3, 0, 0, []), (.goto (-110), 3, 0, 2, [])]
def Bended_115 : List RI := [(.return_, 1, 0, 0, [])]
def Bended : RB := [(0, Bended_0), (2, Bended_2), (10, Bended_10), (19, Bended_19), (34, Bended_34), (49, Bended_49), (52, Bended_52), (66, Bended_66), (73, Bended_73), (77, Bended_77), (78, Bended_78), (91, Bended_91), (105, Bended_105), (108, Bended_108), (109, Bended_109), (115, Bended_115)]
set_option maxRecDepth 100000 in
theorem okBended : rokM cX12_ended 3 none Bended = true := by sorry
def Bread_0 : List RI := [(.aload_n 0, 1, 0, 0, []), (.getfield 310, 3, 0, 1, []), (.istore_n 1, 1, 0, 1, []), (.aload_n 0, 1, 0, 0, []), (.invokevirtual 869, 3, 0, 6, []), (.aload_n 0, 1, 0, 0, []), (.invokevirtual 872, 3, 0, 37, []), (.istore_n 2, 1, 0, 2, []), (.aload_n 0, 1, 0, 0, []), (.iconst 0, 1, 0, 0, []), (.putfield 310, 3, 0, 1, []), (.iload_n 2, 1, 0, 2, []), (.ifCond .eq 54, 3, 0, 74, [])]
def Bread_23 : List RI := [(.aload_n 0, 1, 0, 0, []), (.iload_n 1, 1, 0, 1, []), (.putfield 875, 3, 0, 119, []), (.iconst 0, 1, 0, 0, []), (.istore_n 3, 1, 0, 3, [])]
def Bread_30 : List RI := [(.iload_n 3, 1, 0, 3, []), (.iload_n 1, 1, 0, 1, []), (.if_icmp .ge 21, 3, 0, 53, [])]
def Bread_35 : List RI := [(.aload_n 0, 1, 0, 0, []), (.getfield 255, 3, 3, 118, []), (.iload_n 3, 1, 0, 3, []), (.aload_n 0, 1, 0, 0, []), (.getfield 7, 3, 3, 0, []), (.iload_n 3, 1, 0, 3, []), (.iaload, 1, 0, 0, []), (.iastore, 1, 0, 0, []), (.iinc 3 1, 3, 0, 0, []), (.goto (-20), 3, 0, 30, [])]
def Bread_53 : List RI := [(.aload_n 0, 1, 0, 0, []), (.iconst 0, 1, 0, 0, []), (.putfield 675, 3, 1, 68, []), (.aload_n 0, 1, 0, 0, []), (.iconst 0, 1, 0, 0, []), (.putfield 878, 3, 1, 121, []), (.aload_n 0, 1, 0, 0, []), (.bipush (-2), 2, 0, 0, []), (.putfield 258, 3, 0, 120, []), (.aload_n 0, 1, 0, 0, []), (.getfield 516, 3, 0, 36, []), (.ireturn, 1, 1, 0, [])]
def Bread_74 : List RI := [(.aload_n 0, 1, 0, 0, []), (.aload_n 0, 1, 0, 0, []), (.getfield 410, 3, 0, 16, []), (.putfield 258, 3, 0, 120, []), (.aload_n 0, 1, 0, 0, []), (.getfield 407, 3, 0, 15, []), (.istore_n 3, 1, 0, 3, []), (.aload_n 0, 1, 0, 0, []), (.aload_n 0, 1, 0, 0, []), (.getfield 875, 3, 0, 119, []), (.putfield 310, 3, 0, 1, []), (.iconst 0, 1, 0, 0, []), (.istore 4, 2, 0, 0, [])]
def Bread_98 : List RI := [(.iload 4, 2, 0, 0, []), (.aload_n 0, 1, 0, 0, []), (.getfield 875, 3, 0, 119, []), (.if_icmp .ge 23, 3, 0, 127, [])]
def Bread_107 : List RI := [(.aload_n 0, 1, 0, 0, []), (.getfield 7, 3, 3, 0, []), (.iload 4, 2, 0, 0, []), (.aload_n 0, 1, 0, 0, []), (.getfield 255, 3, 3, 118, []), (.iload 4, 2, 0, 0, []), (.iaload, 1, 0, 0, []), (.iastore, 1, 0, 0, []), (.iinc 4 1, 3, 0, 0, []), (.goto (-26), 3, 0, 98, [])]
def Bread_127 : List RI := [(.aload_n 0, 1, 0, 0, []), (.invokevirtual 869, 3, 0, 6, []), (.aload_n 0, 1, 0, 0, []), (.invokevirtual 872, 3, 0, 37, []), (.istore 4, 2, 0, 0, []), (.aload_n 0, 1, 0, 0, []), (.iconst 0, 1, 0, 0, []), (.putfield 310, 3, 0, 1, []), (.aload_n 0, 1, 0, 0, []), (.getfield 675, 3, 1, 68, []), (.ifCond .eq 7, 3, 0, 153, [])]
def Bread_149 : List RI := [(.aload_n 0, 1, 0, 0, []), (.invokevirtual 881, 3, 0, 82, [])]
def Bread_153 : List RI := [(.bipush (-10), 2, 0, 0, []), (.iload_n 3, 1, 0, 3, []), (.isub, 1, 0, 0, []), (.ireturn, 1, 1, 0, [])]
def Bread : RB := [(0, Bread_0), (23, Bread_23), (30, Bread_30), (35, Bread_35), (53, Bread_53), (74, Bread_74), (98, Bread_98), (107, Bread_107), (127, Bread_127), (149, Bread_149), (153, Bread_153)]
set_option maxRecDepth 100000 in
theorem okBread : rokM cX12_read 5 (some .int) Bread = true := by sorry
def Bplace_0 : List RI := [(.aload_n 0, 1, 0, 0, []), (.getfield 258, 3, 0, 120, []), (.ireturn, 1, 1, 0, [])]
def Bplace : RB := [(0, Bplace_0)]
set_option maxRecDepth 100000 in
theorem okBplace : rokM cX12_place 1 (some .int) Bplace = true := by sorry
def BisGood_0 : List RI := [(.aload_n 0, 1, 0, 0, []), (.getfield 675, 3, 1, 68, []), (.ifCond .ne 7, 3, 0, 11, [])]
def BisGood_7 : List RI := [(.aload_n 0, 1, 0, 0, []), (.invokevirtual 881, 3, 0, 82, [])]
def BisGood_11 : List RI := [(.aload_n 0, 1, 0, 0, []), (.getfield 634, 3, 0, 66, []), (.ifCond .ne 7, 3, 0, 22, [])]
def BisGood_18 : List RI := [(.iconst 1, 1, 0, 0, []), (.goto 4, 3, 0, 23, [])]
def BisGood_22 : List RI := [(.iconst 0, 1, 0, 0, [])]
def BisGood_23 : List RI := [(.ireturn, 1, 2, 0, [])]
def BisGood : RB := [(0, BisGood_0), (7, BisGood_7), (11, BisGood_11), (18, BisGood_18), (22, BisGood_22), (23, BisGood_23)]
set_option maxRecDepth 100000 in
theorem okBisGood : rokM cX12_isGood 1 (some .boolean) BisGood = true := by sorry
def Bjudge_0 : List RI := [(.aload_n 0, 1, 0, 0, []), (.invokevirtual 884, 3, 0, 125, []), (.istore_n 1, 1, 0, 1, []), (.aload_n 0, 1, 0, 0, []), (.iload_n 1, 1, 0, 1, []), (.ifCond .eq 8, 3, 0, 15, [])]
def Bjudge_10 : List RI := [(.bipush (-2), 2, 0, 0, []), (.goto 7, 3, 0, 19, [])]
def Bjudge_15 : List RI := [(.aload_n 0, 1, 0, 0, []), (.getfield 637, 3, 0, 67, [])]
def Bjudge_19 : List RI := [(.putfield 258, 3, 0, 120, []), (.aload_n 0, 1, 0, 0, []), (.getfield 634, 3, 0, 66, []), (.ireturn, 1, 1, 0, [])]
def Bjudge : RB := [(0, Bjudge_0), (10, Bjudge_10), (15, Bjudge_15), (19, Bjudge_19)]
set_option maxRecDepth 100000 in
theorem okBjudge : rokM cX12_judge 2 (some .int) Bjudge = true := by sorry
def Btokens_0 : List RI := [(.aload_n 0, 1, 0, 0, []), (.getfield 323, 3, 0, 2, []), (.ifCond .le 12, 3, 0, 16, [])]
def Btokens_7 : List RI := [(.aload_n 0, 1, 0, 0, []), (.getfield 323, 3, 0, 2, []), (.iconst 1, 1, 0, 0, []), (.isub, 1, 0, 0, []), (.goto 4, 3, 0, 17, [])]
def Btokens_16 : List RI := [(.iconst 0, 1, 0, 0, [])]
def Btokens_17 : List RI := [(.ireturn, 1, 1, 0, [])]
def Btokens : RB := [(0, Btokens_0), (7, Btokens_7), (16, Btokens_16), (17, Btokens_17)]
set_option maxRecDepth 100000 in
theorem okBtokens : rokM cX12_tokens 1 (some .int) Btokens = true := by sorry
def Btold__0 : List RI := [(.iload_n 1, 1, 0, 1, []), (.ifCond .ne 10, 3, 0, 11, [])]
def Btold__4 : List RI := [(.aload_n 0, 1, 0, 0, []), (.invokevirtual 887, 3, 0, 127, []), (.goto 40, 3, 0, 48, [])]
def Btold__11 : List RI := [(.iload_n 1, 1, 0, 1, []), (.iconst 1, 1, 0, 0, []), (.if_icmp .ne 10, 3, 0, 23, [])]
def Btold__16 : List RI := [(.aload_n 0, 1, 0, 0, []), (.getfield 516, 3, 0, 36, []), (.goto 28, 3, 0, 48, [])]
def Btold__23 : List RI := [(.iload_n 1, 1, 0, 1, []), (.iconst 2, 1, 0, 0, []), (.if_icmp .ne 10, 3, 0, 35, [])]
def Btold__28 : List RI := [(.aload_n 0, 1, 0, 0, []), (.getfield 519, 3, 0, 42, []), (.goto 16, 3, 0, 48, [])]
def Btold__35 : List RI := [(.iload_n 1, 1, 0, 1, []), (.iconst 3, 1, 0, 0, []), (.if_icmp .ne 10, 3, 0, 47, [])]
def Btold__40 : List RI := [(.aload_n 0, 1, 0, 0, []), (.getfield 890, 3, 0, 123, []), (.goto 4, 3, 0, 48, [])]
def Btold__47 : List RI := [(.iconst (-1), 1, 0, 0, [])]
def Btold__48 : List RI := [(.ireturn, 1, 1, 0, [])]
def Btold_ : RB := [(0, Btold__0), (4, Btold__4), (11, Btold__11), (16, Btold__16), (23, Btold__23), (28, Btold__28), (35, Btold__35), (40, Btold__40), (47, Btold__47), (48, Btold__48)]
set_option maxRecDepth 100000 in
theorem okBtold_ : rokM cX12_told_ 2 (some .int) Btold_ = true := by sorry
def BisToken_0 : List RI := [(.iload_n 1, 1, 0, 1, []), (.ifCond .lt 15, 3, 0, 16, [])]
def BisToken_4 : List RI := [(.iload_n 1, 1, 0, 1, []), (.aload_n 0, 1, 0, 0, []), (.invokevirtual 887, 3, 0, 127, []), (.if_icmp .ge 7, 3, 0, 16, [])]
def BisToken_12 : List RI := [(.iconst 1, 1, 0, 0, []), (.goto 4, 3, 0, 17, [])]
def BisToken_16 : List RI := [(.iconst 0, 1, 0, 0, [])]
def BisToken_17 : List RI := [(.ireturn, 1, 2, 0, [])]
def BisToken : RB := [(0, BisToken_0), (4, BisToken_4), (12, BisToken_12), (16, BisToken_16), (17, BisToken_17)]
set_option maxRecDepth 100000 in
theorem okBisToken : rokM cX12_isToken 2 (some .boolean) BisToken = true := by sorry
def Btoken_0 : List RI := [(.aload_n 0, 1, 0, 0, []), (.iload_n 1, 1, 0, 1, []), (.invokevirtual 893, 3, 1, 129, []), (.ifCond .eq 12, 3, 0, 17, [])]
def Btoken_8 : List RI := [(.iload_n 2, 1, 0, 2, []), (.ifCond .lt 8, 3, 0, 17, [])]
def Btoken_12 : List RI := [(.iload_n 2, 1, 0, 2, []), (.iconst 2, 1, 0, 0, []), (.if_icmp .le 5, 3, 0, 19, [])]
def Btoken_17 : List RI := [(.iconst (-1), 1, 0, 0, []), (.ireturn, 1, 1, 0, [])]
def Btoken_19 : List RI := [(.iload_n 2, 1, 0, 2, []), (.ifCond .ne 12, 3, 0, 32, [])]
def Btoken_23 : List RI := [(.aload_n 0, 1, 0, 0, []), (.getfield 16, 3, 3, 4, []), (.iload_n 1, 1, 0, 1, []), (.iaload, 1, 0, 0, []), (.goto 23, 3, 0, 52, [])]
def Btoken_32 : List RI := [(.iload_n 2, 1, 0, 2, []), (.iconst 1, 1, 0, 0, []), (.if_icmp .ne 12, 3, 0, 46, [])]
def Btoken_37 : List RI := [(.aload_n 0, 1, 0, 0, []), (.getfield 19, 3, 3, 5, []), (.iload_n 1, 1, 0, 1, []), (.iaload, 1, 0, 0, []), (.goto 9, 3, 0, 52, [])]
def Btoken_46 : List RI := [(.aload_n 0, 1, 0, 0, []), (.getfield 13, 3, 3, 3, []), (.iload_n 1, 1, 0, 1, []), (.iaload, 1, 0, 0, [])]
def Btoken_52 : List RI := [(.ireturn, 1, 1, 0, [])]
def Btoken : RB := [(0, Btoken_0), (8, Btoken_8), (12, Btoken_12), (17, Btoken_17), (19, Btoken_19), (23, Btoken_23), (32, Btoken_32), (37, Btoken_37), (46, Btoken_46), (52, Btoken_52)]
set_option maxRecDepth 100000 in
theorem okBtoken : rokM cX12_token 3 (some .int) Btoken = true := by sorry
def Bmethod__0 : List RI := [(.iload_n 1, 1, 0, 1, []), (.ifCond .lt 11, 3, 0, 12, [])]
def Bmethod__4 : List RI := [(.iload_n 1, 1, 0, 1, []), (.aload_n 0, 1, 0, 0, []), (.getfield 516, 3, 0, 36, []), (.if_icmp .lt 5, 3, 0, 14, [])]
def Bmethod__12 : List RI := [(.iconst (-1), 1, 0, 0, []), (.ireturn, 1, 1, 0, [])]
def Bmethod__14 : List RI := [(.iload_n 2, 1, 0, 2, []), (.bipush 10, 2, 0, 0, []), (.if_icmp .lt 33, 3, 0, 50, [])]
def Bmethod__20 : List RI := [(.iload_n 2, 1, 0, 2, []), (.bipush 10, 2, 0, 0, []), (.aload_n 0, 1, 0, 0, []), (.getfield 81, 3, 3, 39, []), (.iload_n 1, 1, 0, 1, []), (.iaload, 1, 0, 0, []), (.iadd, 1, 0, 0, []), (.if_icmp .ge 20, 3, 0, 50, [])]
def Bmethod__33 : List RI := [(.aload_n 0, 1, 0, 0, []), (.getfield 93, 3, 3, 44, []), (.aload_n 0, 1, 0, 0, []), (.getfield 84, 3, 3, 40, []), (.iload_n 1, 1, 0, 1, []), (.iaload, 1, 0, 0, []), (.iload_n 2, 1, 0, 2, []), (.iadd, 1, 0, 0, []), (.bipush 10, 2, 0, 0, []), (.isub, 1, 0, 0, []), (.iaload, 1, 0, 0, []), (.ireturn, 1, 1, 0, [])]
def Bmethod__50 : List RI := [(.iload_n 2, 1, 0, 2, []), (.ifCond .ne 12, 3, 0, 63, [])]
def Bmethod__54 : List RI := [(.aload_n 0, 1, 0, 0, []), (.getfield 75, 3, 3, 37, []), (.iload_n 1, 1, 0, 1, []), (.iaload, 1, 0, 0, []), (.goto 32, 3, 0, 92, [])]
def Bmethod__63 : List RI := [(.iload_n 2, 1, 0, 2, []), (.iconst 1, 1, 0, 0, []), (.if_icmp .ne 12, 3, 0, 77, [])]
def Bmethod__68 : List RI := [(.aload_n 0, 1, 0, 0, []), (.getfield 78, 3, 3, 38, []), (.iload_n 1, 1, 0, 1, []), (.iaload, 1, 0, 0, []), (.goto 18, 3, 0, 92, [])]
def Bmethod__77 : List RI := [(.iload_n 2, 1, 0, 2, []), (.iconst 2, 1, 0, 0, []), (.if_icmp .ne 12, 3, 0, 91, [])]
def Bmethod__82 : List RI := [(.aload_n 0, 1, 0, 0, []), (.getfield 81, 3, 3, 39, []), (.iload_n 1, 1, 0, 1, []), (.iaload, 1, 0, 0, []), (.goto 4, 3, 0, 92, [])]
def Bmethod__91 : List RI := [(.iconst (-1), 1, 0, 0, [])]
def Bmethod__92 : List RI := [(.ireturn, 1, 1, 0, [])]
def Bmethod_ : RB := [(0, Bmethod__0), (4, Bmethod__4), (12, Bmethod__12), (14, Bmethod__14), (20, Bmethod__20), (33, Bmethod__33), (50, Bmethod__50), (54, Bmethod__54), (63, Bmethod__63), (68, Bmethod__68), (77, Bmethod__77), (82, Bmethod__82), (91, Bmethod__91), (92, Bmethod__92)]
set_option maxRecDepth 100000 in
theorem okBmethod_ : rokM cX12_method_ 3 (some .int) Bmethod_ = true := by sorry
def Bvariable__0 : List RI := [(.iload_n 1, 1, 0, 1, []), (.ifCond .lt 11, 3, 0, 12, [])]
def Bvariable__4 : List RI := [(.iload_n 1, 1, 0, 1, []), (.aload_n 0, 1, 0, 0, []), (.getfield 519, 3, 0, 42, []), (.if_icmp .lt 5, 3, 0, 14, [])]
def Bvariable__12 : List RI := [(.iconst (-1), 1, 0, 0, []), (.ireturn, 1, 1, 0, [])]
def Bvariable__14 : List RI := [(.iload_n 2, 1, 0, 2, []), (.ifCond .ne 12, 3, 0, 27, [])]
def Bvariable__18 : List RI := [(.aload_n 0, 1, 0, 0, []), (.getfield 90, 3, 3, 43, []), (.iload_n 1, 1, 0, 1, []), (.iaload, 1, 0, 0, []), (.goto 54, 3, 0, 78, [])]
def Bvariable__27 : List RI := [(.iload_n 2, 1, 0, 2, []), (.iconst 1, 1, 0, 0, []), (.if_icmp .ne 12, 3, 0, 41, [])]
def Bvariable__32 : List RI := [(.aload_n 0, 1, 0, 0, []), (.getfield 93, 3, 3, 44, []), (.iload_n 1, 1, 0, 1, []), (.iaload, 1, 0, 0, []), (.goto 40, 3, 0, 78, [])]
def Bvariable__41 : List RI := [(.iload_n 2, 1, 0, 2, []), (.iconst 2, 1, 0, 0, []), (.if_icmp .ne 20, 3, 0, 63, [])]
def Bvariable__46 : List RI := [(.aload_n 0, 1, 0, 0, []), (.getfield 96, 3, 4, 45, []), (.iload_n 1, 1, 0, 1, []), (.baload, 1, 0, 0, []), (.ifCond .eq 7, 3, 0, 59, [])]
def Bvariable__55 : List RI := [(.iconst 1, 1, 0, 0, []), (.goto 22, 3, 0, 78, [])]
def Bvariable__59 : List RI := [(.iconst 0, 1, 0, 0, []), (.goto 18, 3, 0, 78, [])]
def Bvariable__63 : List RI := [(.iload_n 2, 1, 0, 2, []), (.iconst 3, 1, 0, 0, []), (.if_icmp .ne 12, 3, 0, 77, [])]
def Bvariable__68 : List RI := [(.aload_n 0, 1, 0, 0, []), (.getfield 99, 3, 3, 46, []), (.iload_n 1, 1, 0, 1, []), (.iaload, 1, 0, 0, []), (.goto 4, 3, 0, 78, [])]
def Bvariable__77 : List RI := [(.iconst (-1), 1, 0, 0, [])]
def Bvariable__78 : List RI := [(.ireturn, 1, 1, 0, [])]
def Bvariable_ : RB := [(0, Bvariable__0), (4, Bvariable__4), (12, Bvariable__12), (14, Bvariable__14), (18, Bvariable__18), (27, Bvariable__27), (32, Bvariable__32), (41, Bvariable__41), (46, Bvariable__46), (55, Bvariable__55), (59, Bvariable__59), (63, Bvariable__63), (68, Bvariable__68), (77, Bvariable__77), (78, Bvariable__78)]
set_option maxRecDepth 100000 in
theorem okBvariable_ : rokM cX12_variable_ 3 (some .int) Bvariable_ = true := by sorry
def Bmeans_0 : List RI := [(.aload_n 0, 1, 0, 0, []), (.iload_n 1, 1, 0, 1, []), (.invokevirtual 893, 3, 1, 129, []), (.ifCond .eq 13, 3, 0, 18, [])]
def Bmeans_8 : List RI := [(.aload_n 0, 1, 0, 0, []), (.getfield 13, 3, 3, 3, []), (.iload_n 1, 1, 0, 1, []), (.iaload, 1, 0, 0, []), (.iconst 1, 1, 0, 0, []), (.if_icmp .eq 5, 3, 0, 20, [])]
def Bmeans_18 : List RI := [(.iconst (-1), 1, 0, 0, []), (.ireturn, 1, 1, 0, [])]
def Bmeans_20 : List RI := [(.aload_n 0, 1, 0, 0, []), (.invokevirtual 884, 3, 0, 125, []), (.ifCond .eq 12, 3, 0, 36, [])]
def Bmeans_27 : List RI := [(.aload_n 0, 1, 0, 0, []), (.getfield 180, 3, 3, 80, []), (.iload_n 1, 1, 0, 1, []), (.iaload, 1, 0, 0, []), (.goto 5, 3, 0, 38, [])]
def Bmeans_36 : List RI := [(.bipush (-2), 2, 0, 0, [])]
def Bmeans_38 : List RI := [(.ireturn, 1, 1, 0, [])]
def Bmeans : RB := [(0, Bmeans_0), (8, Bmeans_8), (18, Bmeans_18), (20, Bmeans_20), (27, Bmeans_27), (36, Bmeans_36), (38, Bmeans_38)]
set_option maxRecDepth 100000 in
theorem okBmeans : rokM cX12_means 2 (some .int) Bmeans = true := by sorry
def BexpAt_0 : List RI := [(.bipush (-2), 2, 0, 0, []), (.istore_n 3, 1, 0, 3, []), (.iconst 0, 1, 0, 0, []), (.istore 4, 2, 0, 0, [])]
def BexpAt_6 : List RI := [(.iload 4, 2, 0, 0, []), (.aload_n 0, 1, 0, 0, []), (.getfield 659, 3, 0, 74, []), (.if_icmp .ge 34, 3, 0, 46, [])]
def BexpAt_15 : List RI := [(.aload_n 0, 1, 0, 0, []), (.getfield 165, 3, 3, 75, []), (.iload 4, 2, 0, 0, []), (.iaload, 1, 0, 0, []), (.iload_n 1, 1, 0, 1, []), (.if_icmp .ne 17, 3, 0, 40, [])]
def BexpAt_26 : List RI := [(.aload_n 0, 1, 0, 0, []), (.getfield 168, 3, 3, 76, []), (.iload 4, 2, 0, 0, []), (.iaload, 1, 0, 0, []), (.iload_n 2, 1, 0, 2, []), (.if_icmp .ne 6, 3, 0, 40, [])]
def BexpAt_37 : List RI := [(.iload 4, 2, 0, 0, []), (.istore_n 3, 1, 0, 3, [])]
def BexpAt_40 : List RI := [(.iinc 4 1, 3, 0, 0, []), (.goto (-37), 3, 0, 6, [])]
def BexpAt_46 : List RI := [(.iload_n 3, 1, 0, 3, []), (.ireturn, 1, 1, 0, [])]
def BexpAt : RB := [(0, BexpAt_0), (6, BexpAt_6), (15, BexpAt_15), (26, BexpAt_26), (37, BexpAt_37), (40, BexpAt_40), (46, BexpAt_46)]
set_option maxRecDepth 100000 in
theorem okBexpAt : rokM cX12_expAt 5 (some .int) BexpAt = true := by sorry
def Btype_0 : List RI := [(.aload_n 0, 1, 0, 0, []), (.invokevirtual 884, 3, 0, 125, []), (.ifCond .ne 6, 3, 0, 10, [])]
def Btype_7 : List RI := [(.bipush (-2), 2, 0, 0, []), (.ireturn, 1, 1, 0, [])]
def Btype_10 : List RI := [(.aload_n 0, 1, 0, 0, []), (.iload_n 1, 1, 0, 1, []), (.iload_n 2, 1, 0, 2, []), (.invokevirtual 896, 3, 2, 134, []), (.istore_n 3, 1, 0, 3, []), (.iload_n 3, 1, 0, 3, []), (.ifCond .ge 7, 3, 0, 25, [])]
def Btype_21 : List RI := [(.iconst (-1), 1, 0, 0, []), (.goto 9, 3, 0, 31, [])]
def Btype_25 : List RI := [(.aload_n 0, 1, 0, 0, []), (.getfield 171, 3, 3, 77, []), (.iload_n 3, 1, 0, 3, []), (.iaload, 1, 0, 0, [])]
def Btype_31 : List RI := [(.ireturn, 1, 1, 0, [])]
def Btype : RB := [(0, Btype_0), (7, Btype_7), (10, Btype_10), (21, Btype_21), (25, Btype_25), (31, Btype_31)]
set_option maxRecDepth 100000 in
theorem okBtype : rokM cX12_type 4 (some .int) Btype = true := by sorry
def Bconstant_0 : List RI := [(.aload_n 0, 1, 0, 0, []), (.invokevirtual 884, 3, 0, 125, []), (.ifCond .ne 7, 3, 0, 11, [])]
def Bconstant_7 : List RI := [(.ldc2_w 899, 3, (-1234567890123), 0, []), (.lreturn, 1, 0, 0, [])]
def Bconstant_11 : List RI := [(.aload_n 0, 1, 0, 0, []), (.iload_n 1, 1, 0, 1, []), (.iload_n 2, 1, 0, 2, []), (.invokevirtual 896, 3, 2, 134, []), (.istore_n 3, 1, 0, 3, []), (.iload_n 3, 1, 0, 3, []), (.ifCond .lt 12, 3, 0, 31, [])]
def Bconstant_22 : List RI := [(.aload_n 0, 1, 0, 0, []), (.getfield 174, 3, 4, 78, []), (.iload_n 3, 1, 0, 3, []), (.baload, 1, 0, 0, []), (.ifCond .ne 9, 3, 0, 37, [])]
def Bconstant_31 : List RI := [(.ldc2_w 899, 3, (-1234567890123), 0, []), (.goto 9, 3, 0, 43, [])]
def Bconstant_37 : List RI := [(.aload_n 0, 1, 0, 0, []), (.getfield 177, 3, 5, 79, []), (.iload_n 3, 1, 0, 3, []), (.laload, 1, 0, 0, [])]
def Bconstant_43 : List RI := [(.lreturn, 1, 0, 0, [])]
def Bconstant : RB := [(0, Bconstant_0), (7, Bconstant_7), (11, Bconstant_11), (22, Bconstant_22), (31, Bconstant_31), (37, Bconstant_37), (43, Bconstant_43)]
set_option maxRecDepth 100000 in
theorem okBconstant : rokM cX12_constant 4 (some .long) Bconstant = true := by sorry
def Bends_0 : List RI := [(.aload_n 0, 1, 0, 0, []), (.invokevirtual 884, 3, 0, 125, []), (.ifCond .ne 6, 3, 0, 10, [])]
def Bends_7 : List RI := [(.bipush (-2), 2, 0, 0, []), (.ireturn, 1, 1, 0, [])]
def Bends_10 : List RI := [(.aload_n 0, 1, 0, 0, []), (.iload_n 1, 1, 0, 1, []), (.invokevirtual 893, 3, 1, 129, []), (.ifCond .eq 12, 3, 0, 27, [])]
def Bends_18 : List RI := [(.aload_n 0, 1, 0, 0, []), (.getfield 246, 3, 4, 109, []), (.iload_n 1, 1, 0, 1, []), (.baload, 1, 0, 0, []), (.ifCond .ne 7, 3, 0, 31, [])]
def Bends_27 : List RI := [(.iconst (-1), 1, 0, 0, []), (.goto 17, 3, 0, 45, [])]
def Bends_31 : List RI := [(.aload_n 0, 1, 0, 0, []), (.getfield 252, 3, 4, 111, []), (.iload_n 1, 1, 0, 1, []), (.baload, 1, 0, 0, []), (.ifCond .eq 7, 3, 0, 44, [])]
def Bends_40 : List RI := [(.iconst 1, 1, 0, 0, []), (.goto 4, 3, 0, 45, [])]
def Bends_44 : List RI := [(.iconst 0, 1, 0, 0, [])]
def Bends_45 : List RI := [(.ireturn, 1, 1, 0, [])]
def Bends : RB := [(0, Bends_0), (7, Bends_7), (10, Bends_10), (18, Bends_18), (27, Bends_27), (31, Bends_31), (40, Bends_40), (44, Bends_44), (45, Bends_45)]
set_option maxRecDepth 100000 in
theorem okBends : rokM cX12_ends 2 (some .int) Bends = true := by sorry
def Bassigned_0 : List RI := [(.aload_n 0, 1, 0, 0, []), (.invokevirtual 884, 3, 0, 125, []), (.ifCond .ne 6, 3, 0, 10, [])]
def Bassigned_7 : List RI := [(.bipush (-2), 2, 0, 0, []), (.ireturn, 1, 1, 0, [])]
def Bassigned_10 : List RI := [(.aload_n 0, 1, 0, 0, []), (.iload_n 1, 1, 0, 1, []), (.invokevirtual 893, 3, 1, 129, []), (.ifCond .eq 44, 3, 0, 59, [])]
def Bassigned_18 : List RI := [(.aload_n 0, 1, 0, 0, []), (.getfield 246, 3, 4, 109, []), (.iload_n 1, 1, 0, 1, []), (.baload, 1, 0, 0, []), (.ifCond .eq 35, 3, 0, 59, [])]
def Bassigned_27 : List RI := [(.iload_n 2, 1, 0, 2, []), (.ifCond .lt 31, 3, 0, 59, [])]
def Bassigned_31 : List RI := [(.iload_n 2, 1, 0, 2, []), (.aload_n 0, 1, 0, 0, []), (.getfield 519, 3, 0, 42, []), (.if_icmp .ge 23, 3, 0, 59, [])]
def Bassigned_39 : List RI := [(.iload_n 1, 1, 0, 1, []), (.aload_n 0, 1, 0, 0, []), (.getfield 90, 3, 3, 43, []), (.iload_n 2, 1, 0, 2, []), (.iaload, 1, 0, 0, []), (.if_icmp .le 13, 3, 0, 59, [])]
def Bassigned_49 : List RI := [(.iload_n 1, 1, 0, 1, []), (.aload_n 0, 1, 0, 0, []), (.getfield 105, 3, 3, 48, []), (.iload_n 2, 1, 0, 2, []), (.iaload, 1, 0, 0, []), (.if_icmp .le 5, 3, 0, 61, [])]
def Bassigned_59 : List RI := [(.iconst (-1), 1, 0, 0, []), (.ireturn, 1, 1, 0, [])]
def Bassigned_61 : List RI := [(.aload_n 0, 1, 0, 0, []), (.getfield 249, 3, 5, 110, []), (.iload_n 1, 1, 0, 1, []), (.laload, 1, 0, 0, []), (.iload_n 2, 1, 0, 2, []), (.lshr, 1, 0, 0, []), (.lconst 1, 1, 0, 0, []), (.land, 1, 0, 0, []), (.lconst 1, 1, 0, 0, []), (.lcmp, 1, 0, 0, []), (.ifCond .ne 7, 3, 0, 80, [])]
def Bassigned_76 : List RI := [(.iconst 1, 1, 0, 0, []), (.goto 4, 3, 0, 81, [])]
def Bassigned_80 : List RI := [(.iconst 0, 1, 0, 0, [])]
def Bassigned_81 : List RI := [(.ireturn, 1, 1, 0, [])]
def Bassigned : RB := [(0, Bassigned_0), (7, Bassigned_7), (10, Bassigned_10), (18, Bassigned_18), (27, Bassigned_27), (31, Bassigned_31), (39, Bassigned_39), (49, Bassigned_49), (59, Bassigned_59), (61, Bassigned_61), (76, Bassigned_76), (80, Bassigned_80), (81, Bassigned_81)]
set_option maxRecDepth 100000 in
theorem okBassigned : rokM cX12_assigned 3 (some .int) Bassigned = true := by sorry
def Bargument_0 : List RI := [(.iload_n 1, 1, 0, 1, []), (.ifCond .lt 8, 3, 0, 9, [])]
def Bargument_4 : List RI := [(.iload_n 1, 1, 0, 1, []), (.iconst 5, 1, 0, 0, []), (.if_icmp .le 5, 3, 0, 11, [])]
def Bargument_9 : List RI := [(.iconst (-1), 1, 0, 0, []), (.ireturn, 1, 1, 0, [])]
def Bargument_11 : List RI := [(.aload_n 0, 1, 0, 0, []), (.getfield 265, 3, 5, 124, []), (.iload_n 1, 1, 0, 1, []), (.lload_n 2, 1, 0, 2, []), (.lastore, 1, 0, 0, []), (.iconst 1, 1, 0, 0, []), (.ireturn, 1, 1, 0, [])]
def Bargument : RB := [(0, Bargument_0), (4, Bargument_4), (9, Bargument_9), (11, Bargument_11)]
set_option maxRecDepth 100000 in
theorem okBargument : rokM cX12_argument 4 (some .int) Bargument = true := by sorry
def Binput_0 : List RI := [(.aload_n 0, 1, 0, 0, []), (.getfield 890, 3, 0, 123, []), (.bipush 40, 2, 0, 0, []), (.if_icmp .ne 6, 3, 0, 12, [])]
def Binput_9 : List RI := [(.bipush (-3), 2, 0, 0, []), (.ireturn, 1, 1, 0, [])]
def Binput_12 : List RI := [(.aload_n 0, 1, 0, 0, []), (.getfield 262, 3, 3, 122, []), (.aload_n 0, 1, 0, 0, []), (.getfield 890, 3, 0, 123, []), (.iload_n 1, 1, 0, 1, []), (.iastore, 1, 0, 0, []), (.aload_n 0, 1, 0, 0, []), (.dup, 1, 0, 0, []), (.getfield 890, 3, 0, 123, []), (.iconst 1, 1, 0, 0, []), (.iadd, 1, 0, 0, []), (.putfield 890, 3, 0, 123, []), (.aload_n 0, 1, 0, 0, []), (.getfield 890, 3, 0, 123, []), (.ireturn, 1, 1, 0, [])]
def Binput : RB := [(0, Binput_0), (9, Binput_9), (12, Binput_12)]
set_option maxRecDepth 100000 in
theorem okBinput : rokM cX12_input 2 (some .int) Binput = true := by sorry
def Bdrain_0 : List RI := [(.aload_n 0, 1, 0, 0, []), (.getfield 890, 3, 0, 123, []), (.istore_n 1, 1, 0, 1, []), (.aload_n 0, 1, 0, 0, []), (.iconst 0, 1, 0, 0, []), (.putfield 890, 3, 0, 123, []), (.iload_n 1, 1, 0, 1, []), (.ireturn, 1, 1, 0, [])]
def Bdrain : RB := [(0, Bdrain_0)]
set_option maxRecDepth 100000 in
theorem okBdrain : rokM cX12_drain 2 (some .int) Bdrain = true := by sorry
def Blinks_0 : List RI := [(.iconst 0, 1, 0, 0, []), (.istore_n 1, 1, 0, 1, []), (.iconst 0, 1, 0, 0, []), (.istore_n 2, 1, 0, 2, [])]
def Blinks_4 : List RI := [(.iload_n 2, 1, 0, 2, []), (.aload_n 0, 1, 0, 0, []), (.getfield 433, 3, 0, 18, []), (.if_icmp .ge 112, 3, 0, 121, [])]
def Blinks_12 : List RI := [(.aload_n 0, 1, 0, 0, []), (.getfield 42, 3, 3, 19, []), (.iload_n 2, 1, 0, 2, []), (.iaload, 1, 0, 0, []), (.istore_n 3, 1, 0, 3, []), (.iload_n 3, 1, 0, 3, []), (.bipush 8, 2, 0, 0, []), (.if_icmp .eq 15, 3, 0, 37, [])]
def Blinks_25 : List RI := [(.iload_n 3, 1, 0, 3, []), (.bipush 10, 2, 0, 0, []), (.if_icmp .eq 9, 3, 0, 37, [])]
def Blinks_31 : List RI := [(.iload_n 3, 1, 0, 3, []), (.bipush 12, 2, 0, 0, []), (.if_icmp .ne 16, 3, 0, 50, [])]
def Blinks_37 : List RI := [(.aload_n 0, 1, 0, 0, []), (.getfield 271, 3, 3, 126, []), (.iload_n 1, 1, 0, 1, []), (.iload_n 2, 1, 0, 2, []), (.iastore, 1, 0, 0, []), (.iinc 1 1, 3, 0, 0, []), (.goto 68, 3, 0, 115, [])]
def Blinks_50 : List RI := [(.iload_n 3, 1, 0, 3, []), (.bipush 9, 2, 0, 0, []), (.if_icmp .eq 15, 3, 0, 68, [])]
def Blinks_56 : List RI := [(.iload_n 3, 1, 0, 3, []), (.bipush 11, 2, 0, 0, []), (.if_icmp .eq 9, 3, 0, 68, [])]
def Blinks_62 : List RI := [(.iload_n 3, 1, 0, 3, []), (.bipush 14, 2, 0, 0, []), (.if_icmp .ne 21, 3, 0, 86, [])]
def Blinks_68 : List RI := [(.iinc 1 (-1), 3, 0, 0, []), (.aload_n 0, 1, 0, 0, []), (.getfield 268, 3, 3, 125, []), (.aload_n 0, 1, 0, 0, []), (.getfield 271, 3, 3, 126, []), (.iload_n 1, 1, 0, 1, []), (.iaload, 1, 0, 0, []), (.iload_n 2, 1, 0, 2, []), (.iastore, 1, 0, 0, []), (.goto 32, 3, 0, 115, [])]
def Blinks_86 : List RI := [(.iload_n 3, 1, 0, 3, []), (.bipush 13, 2, 0, 0, []), (.if_icmp .ne 26, 3, 0, 115, [])]
def Blinks_92 : List RI := [(.aload_n 0, 1, 0, 0, []), (.getfield 268, 3, 3, 125, []), (.aload_n 0, 1, 0, 0, []), (.getfield 271, 3, 3, 126, []), (.iload_n 1, 1, 0, 1, []), (.iconst 1, 1, 0, 0, []), (.isub, 1, 0, 0, []), (.iaload, 1, 0, 0, []), (.iload_n 2, 1, 0, 2, []), (.iastore, 1, 0, 0, []), (.aload_n 0, 1, 0, 0, []), (.getfield 271, 3, 3, 126, []), (.iload_n 1, 1, 0, 1, []), (.iconst 1, 1, 0, 0, []), (.isub, 1, 0, 0, []), (.iload_n 2, 1, 0, 2, []), (.iastore, 1, 0, 0, [])]
def Blinks_115 : List RI := [(.iinc 2 1, 3, 0, 0, []), (.goto (-114), 3, 0, 4, [])]
def Blinks_121 : List RI := [(.return_, 1, 0, 0, [])]
def Blinks : RB := [(0, Blinks_0), (4, Blinks_4), (12, Blinks_12), (25, Blinks_25), (31, Blinks_31), (37, Blinks_37), (50, Blinks_50), (56, Blinks_56), (62, Blinks_62), (68, Blinks_68), (86, Blinks_86), (92, Blinks_92), (115, Blinks_115), (121, Blinks_121)]
set_option maxRecDepth 100000 in
theorem okBlinks : rokM cX12_links 4 none Blinks = true := by sorry
def Bpop1_0 : List RI := [(.aload_n 0, 1, 0, 0, []), (.dup, 1, 0, 0, []), (.getfield 901, 3, 0, 128, []), (.iconst 1, 1, 0, 0, []), (.isub, 1, 0, 0, []), (.putfield 901, 3, 0, 128, []), (.aload_n 0, 1, 0, 0, []), (.getfield 274, 3, 5, 127, []), (.aload_n 0, 1, 0, 0, []), (.getfield 901, 3, 0, 128, []), (.laload, 1, 0, 0, []), (.lreturn, 1, 0, 0, [])]
def Bpop1 : RB := [(0, Bpop1_0)]
set_option maxRecDepth 100000 in
theorem okBpop1 : rokM cX12_pop1 1 (some .long) Bpop1 = true := by sorry
def Bput_0 : List RI := [(.aload_n 0, 1, 0, 0, []), (.getfield 274, 3, 5, 127, []), (.aload_n 0, 1, 0, 0, []), (.getfield 901, 3, 0, 128, []), (.lload_n 1, 1, 0, 1, []), (.lastore, 1, 0, 0, []), (.aload_n 0, 1, 0, 0, []), (.dup, 1, 0, 0, []), (.getfield 901, 3, 0, 128, []), (.iconst 1, 1, 0, 0, []), (.iadd, 1, 0, 0, []), (.putfield 901, 3, 0, 128, []), (.return_, 1, 0, 0, [])]
def Bput : RB := [(0, Bput_0)]
set_option maxRecDepth 100000 in
theorem okBput : rokM cX12_put 3 none Bput = true := by sorry
def Bcount1_0 : List RI := [(.aload_n 0, 1, 0, 0, []), (.getfield 904, 3, 0, 144, []), (.aload_n 0, 1, 0, 0, []), (.getfield 907, 3, 0, 145, []), (.if_icmp .ne 10, 3, 0, 18, [])]
def Bcount1_11 : List RI := [(.aload_n 0, 1, 0, 0, []), (.iconst 3, 1, 0, 0, []), (.putfield 910, 3, 0, 142, []), (.iconst 0, 1, 0, 0, []), (.ireturn, 1, 2, 0, [])]
def Bcount1_18 : List RI := [(.aload_n 0, 1, 0, 0, []), (.dup, 1, 0, 0, []), (.getfield 904, 3, 0, 144, []), (.iconst 1, 1, 0, 0, []), (.iadd, 1, 0, 0, []), (.putfield 904, 3, 0, 144, []), (.iconst 1, 1, 0, 0, []), (.ireturn, 1, 2, 0, [])]
def Bcount1 : RB := [(0, Bcount1_0), (11, Bcount1_11), (18, Bcount1_18)]
set_option maxRecDepth 100000 in
theorem okBcount1 : rokM cX12_count1 1 (some .boolean) Bcount1 = true := by sorry
def Bslot_0 : List RI := [(.bipush 60, 2, 0, 0, []), (.aload_n 0, 1, 0, 0, []), (.getfield 913, 3, 0, 129, []), (.iconst 1, 1, 0, 0, []), (.isub, 1, 0, 0, []), (.imul, 1, 0, 0, []), (.iload_n 1, 1, 0, 1, []), (.iadd, 1, 0, 0, []), (.ireturn, 1, 1, 0, [])]
def Bslot : RB := [(0, Bslot_0)]
set_option maxRecDepth 100000 in
theorem okBslot : rokM cX12_slot 2 (some .int) Bslot = true := by sorry
def Bleave__0 : List RI := [(.aload_n 0, 1, 0, 0, []), (.getfield 916, 3, 0, 133, []), (.ifCond .le 162, 3, 0, 166, [])]
def Bleave__7 : List RI := [(.aload_n 0, 1, 0, 0, []), (.getfield 289, 3, 3, 135, []), (.aload_n 0, 1, 0, 0, []), (.getfield 916, 3, 0, 133, []), (.iconst 1, 1, 0, 0, []), (.isub, 1, 0, 0, []), (.iaload, 1, 0, 0, []), (.aload_n 0, 1, 0, 0, []), (.getfield 913, 3, 0, 129, []), (.if_icmp .ne 144, 3, 0, 166, [])]
def Bleave__25 : List RI := [(.aload_n 0, 1, 0, 0, []), (.getfield 916, 3, 0, 133, []), (.iconst 1, 1, 0, 0, []), (.isub, 1, 0, 0, []), (.istore 5, 2, 0, 0, []), (.aload_n 0, 1, 0, 0, []), (.getfield 286, 3, 3, 134, []), (.iload 5, 2, 0, 0, []), (.iaload, 1, 0, 0, []), (.istore 6, 2, 0, 0, []), (.iload_n 1, 1, 0, 1, []), (.iconst 1, 1, 0, 0, []), (.if_icmp .ne 31, 3, 0, 75, [])]
def Bleave__47 : List RI := [(.iload_n 2, 1, 0, 2, []), (.aload_n 0, 1, 0, 0, []), (.getfield 111, 3, 3, 51, []), (.iload 6, 2, 0, 0, []), (.iaload, 1, 0, 0, []), (.if_icmp .lt 20, 3, 0, 75, [])]
def Bleave__58 : List RI := [(.iload_n 2, 1, 0, 2, []), (.aload_n 0, 1, 0, 0, []), (.getfield 123, 3, 3, 55, []), (.iload 6, 2, 0, 0, []), (.iaload, 1, 0, 0, []), (.if_icmp .gt 9, 3, 0, 75, [])]
def Bleave__69 : List RI := [(.aload_n 0, 1, 0, 0, []), (.iload_n 2, 1, 0, 2, []), (.putfield 919, 3, 0, 141, []), (.return_, 1, 0, 0, [])]
def Bleave__75 : List RI := [(.aload_n 0, 1, 0, 0, []), (.getfield 295, 3, 3, 137, []), (.iload 5, 2, 0, 0, []), (.iaload, 1, 0, 0, []), (.iconst 2, 1, 0, 0, []), (.if_icmp .ge 70, 3, 0, 153, [])]
def Bleave__86 : List RI := [(.aload_n 0, 1, 0, 0, []), (.getfield 132, 3, 3, 58, []), (.iload 6, 2, 0, 0, []), (.iaload, 1, 0, 0, []), (.ifCond .lt 60, 3, 0, 153, [])]
def Bleave__96 : List RI := [(.aload_n 0, 1, 0, 0, []), (.aload_n 0, 1, 0, 0, []), (.getfield 292, 3, 3, 136, []), (.iload 5, 2, 0, 0, []), (.iaload, 1, 0, 0, []), (.putfield 901, 3, 0, 128, []), (.aload_n 0, 1, 0, 0, []), (.getfield 295, 3, 3, 137, []), (.iload 5, 2, 0, 0, []), (.iconst 2, 1, 0, 0, []), (.iastore, 1, 0, 0, []), (.aload_n 0, 1, 0, 0, []), (.getfield 298, 3, 3, 138, []), (.iload 5, 2, 0, 0, []), (.iload_n 1, 1, 0, 1, []), (.iastore, 1, 0, 0, []), (.aload_n 0, 1, 0, 0, []), (.getfield 301, 3, 3, 139, []), (.iload 5, 2, 0, 0, []), (.iload_n 2, 1, 0, 2, []), (.iastore, 1, 0, 0, []), (.aload_n 0, 1, 0, 0, []), (.getfield 304, 3, 5, 140, []), (.iload 5, 2, 0, 0, []), (.lload_n 3, 1, 0, 3, []), (.lastore, 1, 0, 0, []), (.aload_n 0, 1, 0, 0, []), (.aload_n 0, 1, 0, 0, []), (.getfield 132, 3, 3, 58, []), (.iload 6, 2, 0, 0, []), (.iaload, 1, 0, 0, []), (.iconst 1, 1, 0, 0, []), (.iadd, 1, 0, 0, []), (.putfield 919, 3, 0, 141, []), (.return_, 1, 0, 0, [])]
def Bleave__153 : List RI := [(.aload_n 0, 1, 0, 0, []), (.dup, 1, 0, 0, []), (.getfield 916, 3, 0, 133, []), (.iconst 1, 1, 0, 0, []), (.isub, 1, 0, 0, []), (.putfield 916, 3, 0, 133, []), (.goto (-163), 3, 0, 0, [])]
def Bleave__166 : List RI := [(.iload_n 1, 1, 0, 1, []), (.iconst 1, 1, 0, 0, []), (.if_icmp .ne 11, 3, 0, 179, [])]
def Bleave__171 : List RI := [(.aload_n 0, 1, 0, 0, []), (.iload_n 2, 1, 0, 2, []), (.putfield 919, 3, 0, 141, []), (.goto 8, 3, 0, 184, [])]
def Bleave__179 : List RI := [(.aload_n 0, 1, 0, 0, []), (.lload_n 3, 1, 0, 3, []), (.invokevirtual 922, 3, 1, 148, [])]
def Bleave__184 : List RI := [(.return_, 1, 0, 0, [])]
def Bleave_ : RB := [(0, Bleave__0), (7, Bleave__7), (25, Bleave__25), (47, Bleave__47), (58, Bleave__58), (69, Bleave__69), (75, Bleave__75), (86, Bleave__86), (96, Bleave__96), (153, Bleave__153), (166, Bleave__166), (171, Bleave__171), (179, Bleave__179), (184, Bleave__184)]
set_option maxRecDepth 100000 in
theorem okBleave_ : rokM cX12_leave_ 7 none Bleave_ = true := by sorry
def Bback_0 : List RI := [(.aload_n 0, 1, 0, 0, []), (.getfield 283, 3, 3, 132, []), (.aload_n 0, 1, 0, 0, []), (.getfield 913, 3, 0, 129, []), (.iconst 1, 1, 0, 0, []), (.isub, 1, 0, 0, []), (.iaload, 1, 0, 0, []), (.istore_n 3, 1, 0, 3, []), (.aload_n 0, 1, 0, 0, []), (.getfield 280, 3, 3, 131, []), (.aload_n 0, 1, 0, 0, []), (.getfield 913, 3, 0, 129, []), (.iconst 1, 1, 0, 0, []), (.isub, 1, 0, 0, []), (.iaload, 1, 0, 0, []), (.istore 4, 2, 0, 0, []), (.aload_n 0, 1, 0, 0, []), (.dup, 1, 0, 0, []), (.getfield 913, 3, 0, 129, []), (.iconst 1, 1, 0, 0, []), (.isub, 1, 0, 0, []), (.putfield 913, 3, 0, 129, []), (.aload_n 0, 1, 0, 0, []), (.getfield 913, 3, 0, 129, []), (.ifCond .ne 28, 3, 0, 67, [])]
def Bback_42 : List RI := [(.aload_n 0, 1, 0, 0, []), (.aload_n 0, 1, 0, 0, []), (.iload_n 3, 1, 0, 3, []), (.invokevirtual 778, 3, 1, 85, []), (.iconst 5, 1, 0, 0, []), (.if_icmp .ne 8, 3, 0, 57, [])]
def Bback_52 : List RI := [(.bipush 10, 2, 0, 0, []), (.goto 4, 3, 0, 58, [])]
def Bback_57 : List RI := [(.iconst 1, 1, 0, 0, [])]
def Bback_58 : List RI := [(.putfield 910, 3, 0, 142, []), (.aload_n 0, 1, 0, 0, []), (.lload_n 1, 1, 0, 1, []), (.putfield 925, 3, 2, 143, []), (.return_, 1, 0, 0, [])]
def Bback_67 : List RI := [(.aload_n 0, 1, 0, 0, []), (.iload 4, 2, 0, 0, []), (.putfield 919, 3, 0, 141, []), (.aload_n 0, 1, 0, 0, []), (.iload_n 3, 1, 0, 3, []), (.invokevirtual 778, 3, 1, 85, []), (.iconst 5, 1, 0, 0, []), (.if_icmp .eq 8, 3, 0, 87, [])]
def Bback_82 : List RI := [(.aload_n 0, 1, 0, 0, []), (.lload_n 1, 1, 0, 1, []), (.invokevirtual 928, 3, 1, 144, [])]
def Bback_87 : List RI := [(.return_, 1, 0, 0, [])]
def Bback : RB := [(0, Bback_0), (42, Bback_42), (52, Bback_52), (57, Bback_57), (58, Bback_58), (67, Bback_67), (82, Bback_82), (87, Bback_87)]
set_option maxRecDepth 100000 in
theorem okBback : rokM cX12_back 5 none Bback = true := by sorry
def Braise_0 : List RI := [(.aload_n 0, 1, 0, 0, []), (.getfield 916, 3, 0, 133, []), (.ifCond .le 163, 3, 0, 167, [])]
def Braise_7 : List RI := [(.aload_n 0, 1, 0, 0, []), (.getfield 916, 3, 0, 133, []), (.iconst 1, 1, 0, 0, []), (.isub, 1, 0, 0, []), (.istore_n 3, 1, 0, 3, []), (.aload_n 0, 1, 0, 0, []), (.getfield 286, 3, 3, 134, []), (.iload_n 3, 1, 0, 3, []), (.iaload, 1, 0, 0, []), (.istore 4, 2, 0, 0, []), (.aload_n 0, 1, 0, 0, []), (.aload_n 0, 1, 0, 0, []), (.getfield 289, 3, 3, 135, []), (.iload_n 3, 1, 0, 3, []), (.iaload, 1, 0, 0, []), (.putfield 913, 3, 0, 129, []), (.aload_n 0, 1, 0, 0, []), (.aload_n 0, 1, 0, 0, []), (.getfield 292, 3, 3, 136, []), (.iload_n 3, 1, 0, 3, []), (.iaload, 1, 0, 0, []), (.putfield 901, 3, 0, 128, []), (.aload_n 0, 1, 0, 0, []), (.getfield 295, 3, 3, 137, []), (.iload_n 3, 1, 0, 3, []), (.iaload, 1, 0, 0, []), (.ifCond .ne 51, 3, 0, 99, [])]
def Braise_51 : List RI := [(.aload_n 0, 1, 0, 0, []), (.getfield 129, 3, 3, 57, []), (.iload 4, 2, 0, 0, []), (.iaload, 1, 0, 0, []), (.ifCond .lt 41, 3, 0, 99, [])]
def Braise_61 : List RI := [(.aload_n 0, 1, 0, 0, []), (.getfield 295, 3, 3, 137, []), (.iload_n 3, 1, 0, 3, []), (.iconst 1, 1, 0, 0, []), (.iastore, 1, 0, 0, []), (.aload_n 0, 1, 0, 0, []), (.getfield 277, 3, 5, 130, []), (.aload_n 0, 1, 0, 0, []), (.aload_n 0, 1, 0, 0, []), (.getfield 141, 3, 3, 61, []), (.iload 4, 2, 0, 0, []), (.iaload, 1, 0, 0, []), (.invokevirtual 931, 3, 1, 146, []), (.lload_n 1, 1, 0, 1, []), (.lastore, 1, 0, 0, []), (.aload_n 0, 1, 0, 0, []), (.aload_n 0, 1, 0, 0, []), (.getfield 129, 3, 3, 57, []), (.iload 4, 2, 0, 0, []), (.iaload, 1, 0, 0, []), (.iconst 1, 1, 0, 0, []), (.iadd, 1, 0, 0, []), (.putfield 919, 3, 0, 141, []), (.return_, 1, 0, 0, [])]
def Braise_99 : List RI := [(.aload_n 0, 1, 0, 0, []), (.getfield 295, 3, 3, 137, []), (.iload_n 3, 1, 0, 3, []), (.iaload, 1, 0, 0, []), (.iconst 2, 1, 0, 0, []), (.if_icmp .ge 48, 3, 0, 154, [])]
def Braise_109 : List RI := [(.aload_n 0, 1, 0, 0, []), (.getfield 132, 3, 3, 58, []), (.iload 4, 2, 0, 0, []), (.iaload, 1, 0, 0, []), (.ifCond .lt 38, 3, 0, 154, [])]
def Braise_119 : List RI := [(.aload_n 0, 1, 0, 0, []), (.getfield 295, 3, 3, 137, []), (.iload_n 3, 1, 0, 3, []), (.iconst 2, 1, 0, 0, []), (.iastore, 1, 0, 0, []), (.aload_n 0, 1, 0, 0, []), (.getfield 298, 3, 3, 138, []), (.iload_n 3, 1, 0, 3, []), (.iconst 3, 1, 0, 0, []), (.iastore, 1, 0, 0, []), (.aload_n 0, 1, 0, 0, []), (.getfield 304, 3, 5, 140, []), (.iload_n 3, 1, 0, 3, []), (.lload_n 1, 1, 0, 1, []), (.lastore, 1, 0, 0, []), (.aload_n 0, 1, 0, 0, []), (.aload_n 0, 1, 0, 0, []), (.getfield 132, 3, 3, 58, []), (.iload 4, 2, 0, 0, []), (.iaload, 1, 0, 0, []), (.iconst 1, 1, 0, 0, []), (.iadd, 1, 0, 0, []), (.putfield 919, 3, 0, 141, []), (.return_, 1, 0, 0, [])]
def Braise_154 : List RI := [(.aload_n 0, 1, 0, 0, []), (.dup, 1, 0, 0, []), (.getfield 916, 3, 0, 133, []), (.iconst 1, 1, 0, 0, []), (.isub, 1, 0, 0, []), (.putfield 916, 3, 0, 133, []), (.goto (-164), 3, 0, 0, [])]
def Braise_167 : List RI := [(.aload_n 0, 1, 0, 0, []), (.iconst 2, 1, 0, 0, []), (.putfield 910, 3, 0, 142, []), (.aload_n 0, 1, 0, 0, []), (.lload_n 1, 1, 0, 1, []), (.putfield 925, 3, 2, 143, []), (.return_, 1, 0, 0, [])]
def Braise : RB := [(0, Braise_0), (7, Braise_7), (51, Braise_51), (61, Braise_61), (99, Braise_99), (109, Braise_109), (119, Braise_119), (154, Braise_154), (167, Braise_167)]
set_option maxRecDepth 100000 in
theorem okBraise : rokM cX12_raise 5 none Braise = true := by sorry
def Bbegin_0 : List RI := [(.aload_n 0, 1, 0, 0, []), (.getfield 913, 3, 0, 129, []), (.bipush 30, 2, 0, 0, []), (.if_icmp .ne 10, 3, 0, 16, [])]
def Bbegin_9 : List RI := [(.aload_n 0, 1, 0, 0, []), (.iconst 4, 1, 0, 0, []), (.putfield 910, 3, 0, 142, []), (.iconst 0, 1, 0, 0, []), (.ireturn, 1, 2, 0, [])]
def Bbegin_16 : List RI := [(.aload_n 0, 1, 0, 0, []), (.getfield 283, 3, 3, 132, []), (.aload_n 0, 1, 0, 0, []), (.getfield 913, 3, 0, 129, []), (.iload_n 1, 1, 0, 1, []), (.iastore, 1, 0, 0, []), (.aload_n 0, 1, 0, 0, []), (.getfield 280, 3, 3, 131, []), (.aload_n 0, 1, 0, 0, []), (.getfield 913, 3, 0, 129, []), (.iload_n 2, 1, 0, 2, []), (.iastore, 1, 0, 0, []), (.aload_n 0, 1, 0, 0, []), (.dup, 1, 0, 0, []), (.getfield 913, 3, 0, 129, []), (.iconst 1, 1, 0, 0, []), (.iadd, 1, 0, 0, []), (.putfield 913, 3, 0, 129, []), (.iconst 1, 1, 0, 0, []), (.ireturn, 1, 2, 0, [])]
def Bbegin : RB := [(0, Bbegin_0), (9, Bbegin_9), (16, Bbegin_16)]
set_option maxRecDepth 100000 in
theorem okBbegin : rokM cX12_begin 3 (some .boolean) Bbegin = true := by sorry
def Brun_0 : List RI := [(.iload_n 1, 1, 0, 1, []), (.ifCond .lt 23, 3, 0, 24, [])]
def Brun_4 : List RI := [(.iload_n 1, 1, 0, 1, []), (.aload_n 0, 1, 0, 0, []), (.getfield 516, 3, 0, 36, []), (.if_icmp .ge 15, 3, 0, 24, [])]
def Brun_12 : List RI := [(.iload_n 2, 1, 0, 2, []), (.iconst 1, 1, 0, 0, []), (.if_icmp .lt 10, 3, 0, 24, [])]
def Brun_17 : List RI := [(.iload_n 2, 1, 0, 2, []), (.sipush 20000, 3, 0, 0, []), (.if_icmp .le 5, 3, 0, 26, [])]
def Brun_24 : List RI := [(.iconst (-1), 1, 0, 0, []), (.ireturn, 1, 1, 0, [])]
def Brun_26 : List RI := [(.aload_n 0, 1, 0, 0, []), (.invokevirtual 884, 3, 0, 125, []), (.ifCond .ne 6, 3, 0, 36, [])]
def Brun_33 : List RI := [(.bipush (-2), 2, 0, 0, []), (.ireturn, 1, 1, 0, [])]
def Brun_36 : List RI := [(.aload_n 0, 1, 0, 0, []), (.invokevirtual 934, 3, 0, 142, []), (.aload_n 0, 1, 0, 0, []), (.iconst 1, 1, 0, 0, []), (.putfield 878, 3, 1, 121, []), (.aload_n 0, 1, 0, 0, []), (.iconst 0, 1, 0, 0, []), (.putfield 910, 3, 0, 142, []), (.aload_n 0, 1, 0, 0, []), (.lconst 0, 1, 0, 0, []), (.putfield 925, 3, 2, 143, []), (.aload_n 0, 1, 0, 0, []), (.iconst 0, 1, 0, 0, []), (.putfield 904, 3, 0, 144, []), (.aload_n 0, 1, 0, 0, []), (.iload_n 2, 1, 0, 2, []), (.putfield 907, 3, 0, 145, []), (.aload_n 0, 1, 0, 0, []), (.iconst 0, 1, 0, 0, []), (.putfield 937, 3, 0, 146, []), (.aload_n 0, 1, 0, 0, []), (.bipush (-2), 2, 0, 0, []), (.putfield 940, 3, 0, 147, []), (.aload_n 0, 1, 0, 0, []), (.iconst 0, 1, 0, 0, []), (.putfield 943, 3, 0, 148, []), (.aload_n 0, 1, 0, 0, []), (.iconst 0, 1, 0, 0, []), (.putfield 901, 3, 0, 128, []), (.aload_n 0, 1, 0, 0, []), (.iconst 0, 1, 0, 0, []), (.putfield 913, 3, 0, 129, []), (.aload_n 0, 1, 0, 0, []), (.iconst 0, 1, 0, 0, []), (.putfield 916, 3, 0, 133, []), (.aload_n 0, 1, 0, 0, []), (.invokevirtual 946, 3, 0, 145, []), (.ifCond .eq 95, 3, 0, 195, [])]
def Brun_103 : List RI := [(.aload_n 0, 1, 0, 0, []), (.iload_n 1, 1, 0, 1, []), (.bipush (-2), 2, 0, 0, []), (.invokevirtual 949, 3, 2, 150, []), (.ifCond .eq 85, 3, 0, 195, [])]
def Brun_113 : List RI := [(.iconst 0, 1, 0, 0, []), (.istore_n 3, 1, 0, 3, [])]
def Brun_115 : List RI := [(.iload_n 3, 1, 0, 3, []), (.aload_n 0, 1, 0, 0, []), (.getfield 81, 3, 3, 39, []), (.iload_n 1, 1, 0, 1, []), (.iaload, 1, 0, 0, []), (.if_icmp .ge 45, 3, 0, 167, [])]
def Brun_125 : List RI := [(.aload_n 0, 1, 0, 0, []), (.getfield 277, 3, 5, 130, []), (.aload_n 0, 1, 0, 0, []), (.getfield 84, 3, 3, 40, []), (.iload_n 1, 1, 0, 1, []), (.iaload, 1, 0, 0, []), (.iload_n 3, 1, 0, 3, []), (.iadd, 1, 0, 0, []), (.aload_n 0, 1, 0, 0, []), (.aload_n 0, 1, 0, 0, []), (.getfield 93, 3, 3, 44, []), (.aload_n 0, 1, 0, 0, []), (.getfield 84, 3, 3, 40, []), (.iload_n 1, 1, 0, 1, []), (.iaload, 1, 0, 0, []), (.iload_n 3, 1, 0, 3, []), (.iadd, 1, 0, 0, []), (.iaload, 1, 0, 0, []), (.aload_n 0, 1, 0, 0, []), (.getfield 265, 3, 5, 124, []), (.iload_n 3, 1, 0, 3, []), (.laload, 1, 0, 0, []), (.invokevirtual 741, 3, 2, 76, []), (.lastore, 1, 0, 0, []), (.iinc 3 1, 3, 0, 0, []), (.goto (-49), 3, 0, 115, [])]
def Brun_167 : List RI := [(.aload_n 0, 1, 0, 0, []), (.aload_n 0, 1, 0, 0, []), (.getfield 87, 3, 3, 41, []), (.iload_n 1, 1, 0, 1, []), (.iaload, 1, 0, 0, []), (.putfield 919, 3, 0, 141, [])]
def Brun_177 : List RI := [(.aload_n 0, 1, 0, 0, []), (.getfield 910, 3, 0, 142, []), (.ifCond .ne 14, 3, 0, 195, [])]
def Brun_184 : List RI := [(.aload_n 0, 1, 0, 0, []), (.aload_n 0, 1, 0, 0, []), (.getfield 919, 3, 0, 141, []), (.invokevirtual 952, 3, 1, 152, []), (.goto (-15), 3, 0, 177, [])]
def Brun_195 : List RI := [(.aload_n 0, 1, 0, 0, []), (.getfield 910, 3, 0, 142, []), (.iconst 2, 1, 0, 0, []), (.if_icmp .le 17, 3, 0, 217, [])]
def Brun_203 : List RI := [(.aload_n 0, 1, 0, 0, []), (.getfield 910, 3, 0, 142, []), (.bipush 10, 2, 0, 0, []), (.if_icmp .ge 8, 3, 0, 217, [])]
def Brun_212 : List RI := [(.aload_n 0, 1, 0, 0, []), (.lconst 0, 1, 0, 0, []), (.putfield 925, 3, 2, 143, [])]
def Brun_217 : List RI := [(.aload_n 0, 1, 0, 0, []), (.getfield 910, 3, 0, 142, []), (.bipush 10, 2, 0, 0, []), (.if_icmp .ne 7, 3, 0, 230, [])]
def Brun_226 : List RI := [(.iconst 0, 1, 0, 0, []), (.goto 7, 3, 0, 234, [])]
def Brun_230 : List RI := [(.aload_n 0, 1, 0, 0, []), (.getfield 910, 3, 0, 142, [])]
def Brun_234 : List RI := [(.ireturn, 1, 1, 0, [])]
def Brun : RB := [(0, Brun_0), (4, Brun_4), (12, Brun_12), (17, Brun_17), (24, Brun_24), (26, Brun_26), (33, Brun_33), (36, Brun_36), (103, Brun_103), (113, Brun_113), (115, Brun_115), (125, Brun_125), (167, Brun_167), (177, Brun_177), (184, Brun_184), (195, Brun_195), (203, Brun_203), (212, Brun_212), (217, Brun_217), (226, Brun_226), (230, Brun_230), (234, Brun_234)]
set_option maxRecDepth 100000 in
theorem okBrun : rokM cX12_run 4 (some .int) Brun = true := by sorry
def Bwork_0 : List RI := [(.aload_n 0, 1, 0, 0, []), (.iload_n 1, 1, 0, 1, []), (.iconst 1, 1, 0, 0, []), (.iadd, 1, 0, 0, []), (.putfield 919, 3, 0, 141, []), (.aload_n 0, 1, 0, 0, []), (.getfield 51, 3, 3, 22, []), (.iload_n 1, 1, 0, 1, []), (.iaload, 1, 0, 0, []), (.istore_n 2, 1, 0, 2, []), (.aload_n 0, 1, 0, 0, []), (.getfield 42, 3, 3, 19, []), (.iload_n 1, 1, 0, 1, []), (.iaload, 1, 0, 0, []), (.tableswitch 581 1 18 #[88, 99, 137, 137, 220, 298, 317, 350, 581, 350, 581, 416, 438, 581, 581, 451, 470, 575], 88, 0, 601, [(1, 108), (2, 119), (3, 157), (4, 157), (5, 240), (6, 318), (7, 337), (8, 370), (9, 601), (10, 370), (11, 601), (12, 436), (13, 458), (14, 601), (15, 601), (16, 471), (17, 490), (18, 595)])]
def Bwork_108 : List RI := [(.aload_n 0, 1, 0, 0, []), (.aload_n 0, 1, 0, 0, []), (.getfield 195, 3, 5, 85, []), (.iload_n 1, 1, 0, 1, []), (.laload, 1, 0, 0, []), (.invokevirtual 928, 3, 1, 144, []), (.return_, 1, 0, 0, [])]
def Bwork_119 : List RI := [(.aload_n 0, 1, 0, 0, []), (.aload_n 0, 1, 0, 0, []), (.getfield 192, 3, 4, 84, []), (.iload_n 1, 1, 0, 1, []), (.baload, 1, 0, 0, []), (.ifCond .eq 12, 3, 0, 138, [])]
def Bwork_129 : List RI := [(.aload_n 0, 1, 0, 0, []), (.getfield 195, 3, 5, 85, []), (.iload_n 1, 1, 0, 1, []), (.laload, 1, 0, 0, []), (.goto 18, 3, 0, 153, [])]
def Bwork_138 : List RI := [(.aload_n 0, 1, 0, 0, []), (.getfield 277, 3, 5, 130, []), (.aload_n 0, 1, 0, 0, []), (.aload_n 0, 1, 0, 0, []), (.getfield 189, 3, 3, 83, []), (.iload_n 1, 1, 0, 1, []), (.iaload, 1, 0, 0, []), (.invokevirtual 931, 3, 1, 146, []), (.laload, 1, 0, 0, [])]
def Bwork_153 : List RI := [(.invokevirtual 928, 3, 1, 144, []), (.return_, 1, 0, 0, [])]
def Bwork_157 : List RI := [(.aload_n 0, 1, 0, 0, []), (.aload_n 0, 1, 0, 0, []), (.getfield 189, 3, 3, 83, []), (.iload_n 1, 1, 0, 1, []), (.iaload, 1, 0, 0, []), (.invokevirtual 931, 3, 1, 146, []), (.istore_n 3, 1, 0, 3, []), (.aload_n 0, 1, 0, 0, []), (.aload_n 0, 1, 0, 0, []), (.getfield 183, 3, 3, 81, []), (.iload_n 1, 1, 0, 1, []), (.iaload, 1, 0, 0, []), (.aload_n 0, 1, 0, 0, []), (.getfield 277, 3, 5, 130, []), (.iload_n 3, 1, 0, 3, []), (.laload, 1, 0, 0, []), (.aload_n 0, 1, 0, 0, []), (.getfield 45, 3, 3, 20, []), (.iload_n 1, 1, 0, 1, []), (.iaload, 1, 0, 0, []), (.sipush 309, 3, 0, 0, []), (.if_icmp .ne 7, 3, 0, 197, [])]
def Bwork_193 : List RI := [(.lconst 1, 1, 0, 0, []), (.goto 6, 3, 0, 200, [])]
def Bwork_197 : List RI := [(.ldc2_w 739, 3, (-1), 0, [])]
def Bwork_200 : List RI := [(.ladd, 1, 0, 0, []), (.invokevirtual 741, 3, 2, 76, []), (.lstore 4, 2, 0, 0, []), (.aload_n 0, 1, 0, 0, []), (.aload_n 0, 1, 0, 0, []), (.getfield 42, 3, 3, 19, []), (.iload_n 1, 1, 0, 1, []), (.iaload, 1, 0, 0, []), (.iconst 4, 1, 0, 0, []), (.if_icmp .ne 8, 3, 0, 222, [])]
def Bwork_217 : List RI := [(.lload 4, 2, 0, 0, []), (.goto 9, 3, 0, 228, [])]
def Bwork_222 : List RI := [(.aload_n 0, 1, 0, 0, []), (.getfield 277, 3, 5, 130, []), (.iload_n 3, 1, 0, 3, []), (.laload, 1, 0, 0, [])]
def Bwork_228 : List RI := [(.invokevirtual 928, 3, 1, 144, []), (.aload_n 0, 1, 0, 0, []), (.getfield 277, 3, 5, 130, []), (.iload_n 3, 1, 0, 3, []), (.lload 4, 2, 0, 0, []), (.lastore, 1, 0, 0, []), (.return_, 1, 0, 0, [])]
def Bwork_240 : List RI := [(.aload_n 0, 1, 0, 0, []), (.invokevirtual 955, 3, 0, 143, []), (.lstore 6, 2, 0, 0, []), (.aload_n 0, 1, 0, 0, []), (.aload_n 0, 1, 0, 0, []), (.getfield 45, 3, 3, 20, []), (.iload_n 1, 1, 0, 1, []), (.iaload, 1, 0, 0, []), (.bipush 33, 2, 0, 0, []), (.if_icmp .ne 10, 3, 0, 265, [])]
def Bwork_258 : List RI := [(.lconst 1, 1, 0, 0, []), (.lload 6, 2, 0, 0, []), (.lsub, 1, 0, 0, []), (.goto 52, 3, 0, 314, [])]
def Bwork_265 : List RI := [(.aload_n 0, 1, 0, 0, []), (.aload_n 0, 1, 0, 0, []), (.getfield 186, 3, 3, 82, []), (.iload_n 1, 1, 0, 1, []), (.iaload, 1, 0, 0, []), (.aload_n 0, 1, 0, 0, []), (.getfield 45, 3, 3, 20, []), (.iload_n 1, 1, 0, 1, []), (.iaload, 1, 0, 0, []), (.bipush 45, 2, 0, 0, []), (.if_icmp .ne 9, 3, 0, 289, [])]
def Bwork_283 : List RI := [(.lload 6, 2, 0, 0, []), (.lneg, 1, 0, 0, []), (.goto 25, 3, 0, 311, [])]
def Bwork_289 : List RI := [(.aload_n 0, 1, 0, 0, []), (.getfield 45, 3, 3, 20, []), (.iload_n 1, 1, 0, 1, []), (.iaload, 1, 0, 0, []), (.bipush 126, 2, 0, 0, []), (.if_icmp .ne 12, 3, 0, 309, [])]
def Bwork_300 : List RI := [(.lload 6, 2, 0, 0, []), (.ldc2_w 739, 3, (-1), 0, []), (.lxor, 1, 0, 0, []), (.goto 5, 3, 0, 311, [])]
def Bwork_309 : List RI := [(.lload 6, 2, 0, 0, [])]
def Bwork_311 : List RI := [(.invokevirtual 741, 3, 2, 76, [])]
def Bwork_314 : List RI := [(.invokevirtual 928, 3, 1, 144, []), (.return_, 1, 0, 0, [])]
def Bwork_318 : List RI := [(.aload_n 0, 1, 0, 0, []), (.aload_n 0, 1, 0, 0, []), (.aload_n 0, 1, 0, 0, []), (.getfield 45, 3, 3, 20, []), (.iload_n 1, 1, 0, 1, []), (.iaload, 1, 0, 0, []), (.aload_n 0, 1, 0, 0, []), (.invokevirtual 955, 3, 0, 143, []), (.invokevirtual 741, 3, 2, 76, []), (.invokevirtual 928, 3, 1, 144, []), (.return_, 1, 0, 0, [])]
def Bwork_337 : List RI := [(.aload_n 0, 1, 0, 0, []), (.invokevirtual 955, 3, 0, 143, []), (.lstore 8, 2, 0, 0, []), (.aload_n 0, 1, 0, 0, []), (.invokevirtual 955, 3, 0, 143, []), (.lstore 10, 2, 0, 0, []), (.aload_n 0, 1, 0, 0, []), (.aload_n 0, 1, 0, 0, []), (.getfield 45, 3, 3, 20, []), (.iload_n 1, 1, 0, 1, []), (.iaload, 1, 0, 0, []), (.aload_n 0, 1, 0, 0, []), (.getfield 186, 3, 3, 82, []), (.iload_n 1, 1, 0, 1, []), (.iaload, 1, 0, 0, []), (.lload 10, 2, 0, 0, []), (.lload 8, 2, 0, 0, []), (.invokevirtual 958, 3, 4, 153, []), (.return_, 1, 0, 0, [])]
def Bwork_370 : List RI := [(.aload_n 0, 1, 0, 0, []), (.getfield 274, 3, 5, 127, []), (.aload_n 0, 1, 0, 0, []), (.getfield 901, 3, 0, 128, []), (.iconst 1, 1, 0, 0, []), (.isub, 1, 0, 0, []), (.laload, 1, 0, 0, []), (.lconst 0, 1, 0, 0, []), (.lcmp, 1, 0, 0, []), (.ifCond .eq 7, 3, 0, 390, [])]
def Bwork_386 : List RI := [(.iconst 1, 1, 0, 0, []), (.goto 4, 3, 0, 391, [])]
def Bwork_390 : List RI := [(.iconst 0, 1, 0, 0, [])]
def Bwork_391 : List RI := [(.aload_n 0, 1, 0, 0, []), (.getfield 42, 3, 3, 19, []), (.iload_n 1, 1, 0, 1, []), (.iaload, 1, 0, 0, []), (.bipush 10, 2, 0, 0, []), (.if_icmp .ne 7, 3, 0, 406, [])]
def Bwork_402 : List RI := [(.iconst 1, 1, 0, 0, []), (.goto 4, 3, 0, 407, [])]
def Bwork_406 : List RI := [(.iconst 0, 1, 0, 0, [])]
def Bwork_407 : List RI := [(.if_icmp .ne 18, 3, 0, 425, [])]
def Bwork_410 : List RI := [(.aload_n 0, 1, 0, 0, []), (.aload_n 0, 1, 0, 0, []), (.getfield 268, 3, 3, 125, []), (.iload_n 1, 1, 0, 1, []), (.iaload, 1, 0, 0, []), (.iconst 1, 1, 0, 0, []), (.iadd, 1, 0, 0, []), (.putfield 919, 3, 0, 141, []), (.goto 13, 3, 0, 435, [])]
def Bwork_425 : List RI := [(.aload_n 0, 1, 0, 0, []), (.dup, 1, 0, 0, []), (.getfield 901, 3, 0, 128, []), (.iconst 1, 1, 0, 0, []), (.isub, 1, 0, 0, []), (.putfield 901, 3, 0, 128, [])]
def Bwork_435 : List RI := [(.return_, 1, 0, 0, [])]
def Bwork_436 : List RI := [(.aload_n 0, 1, 0, 0, []), (.invokevirtual 955, 3, 0, 143, []), (.lconst 0, 1, 0, 0, []), (.lcmp, 1, 0, 0, []), (.ifCond .ne 15, 3, 0, 457, [])]
def Bwork_445 : List RI := [(.aload_n 0, 1, 0, 0, []), (.aload_n 0, 1, 0, 0, []), (.getfield 268, 3, 3, 125, []), (.iload_n 1, 1, 0, 1, []), (.iaload, 1, 0, 0, []), (.iconst 1, 1, 0, 0, []), (.iadd, 1, 0, 0, []), (.putfield 919, 3, 0, 141, [])]
def Bwork_457 : List RI := [(.return_, 1, 0, 0, [])]
def Bwork_458 : List RI := [(.aload_n 0, 1, 0, 0, []), (.aload_n 0, 1, 0, 0, []), (.getfield 268, 3, 3, 125, []), (.iload_n 1, 1, 0, 1, []), (.iaload, 1, 0, 0, []), (.iconst 1, 1, 0, 0, []), (.iadd, 1, 0, 0, []), (.putfield 919, 3, 0, 141, []), (.return_, 1, 0, 0, [])]
def Bwork_471 : List RI := [(.aload_n 0, 1, 0, 0, []), (.aload_n 0, 1, 0, 0, []), (.getfield 277, 3, 5, 130, []), (.aload_n 0, 1, 0, 0, []), (.aload_n 0, 1, 0, 0, []), (.iload_n 1, 1, 0, 1, []), (.invokevirtual 850, 3, 1, 118, []), (.invokevirtual 931, 3, 1, 146, []), (.laload, 1, 0, 0, []), (.invokevirtual 928, 3, 1, 144, []), (.return_, 1, 0, 0, [])]
def Bwork_490 : List RI := [(.aload_n 0, 1, 0, 0, []), (.getfield 45, 3, 3, 20, []), (.iload_n 1, 1, 0, 1, []), (.iaload, 1, 0, 0, []), (.bipush 61, 2, 0, 0, []), (.if_icmp .eq 57, 3, 0, 555, [])]
def Bwork_501 : List RI := [(.aload_n 0, 1, 0, 0, []), (.invokevirtual 955, 3, 0, 143, []), (.lstore 12, 2, 0, 0, []), (.aload_n 0, 1, 0, 0, []), (.invokevirtual 955, 3, 0, 143, []), (.lstore 14, 2, 0, 0, []), (.aload_n 0, 1, 0, 0, []), (.aload_n 0, 1, 0, 0, []), (.getfield 45, 3, 3, 20, []), (.iload_n 1, 1, 0, 1, []), (.iaload, 1, 0, 0, []), (.sipush 400, 3, 0, 0, []), (.isub, 1, 0, 0, []), (.aload_n 0, 1, 0, 0, []), (.getfield 186, 3, 3, 82, []), (.iload_n 1, 1, 0, 1, []), (.iaload, 1, 0, 0, []), (.lload 14, 2, 0, 0, []), (.lload 12, 2, 0, 0, []), (.invokevirtual 958, 3, 4, 153, []), (.aload_n 0, 1, 0, 0, []), (.getfield 919, 3, 0, 141, []), (.iload_n 1, 1, 0, 1, []), (.iconst 1, 1, 0, 0, []), (.iadd, 1, 0, 0, []), (.if_icmp .ne 10, 3, 0, 554, [])]
def Bwork_547 : List RI := [(.aload_n 0, 1, 0, 0, []), (.getfield 910, 3, 0, 142, []), (.ifCond .eq 4, 3, 0, 555, [])]
def Bwork_554 : List RI := [(.return_, 1, 0, 0, [])]
def Bwork_555 : List RI := [(.aload_n 0, 1, 0, 0, []), (.aload_n 0, 1, 0, 0, []), (.getfield 183, 3, 3, 81, []), (.iload_n 1, 1, 0, 1, []), (.iaload, 1, 0, 0, []), (.aload_n 0, 1, 0, 0, []), (.invokevirtual 955, 3, 0, 143, []), (.invokevirtual 741, 3, 2, 76, []), (.lstore 12, 2, 0, 0, []), (.aload_n 0, 1, 0, 0, []), (.getfield 277, 3, 5, 130, []), (.aload_n 0, 1, 0, 0, []), (.aload_n 0, 1, 0, 0, []), (.getfield 189, 3, 3, 83, []), (.iload_n 1, 1, 0, 1, []), (.iaload, 1, 0, 0, []), (.invokevirtual 931, 3, 1, 146, []), (.lload 12, 2, 0, 0, []), (.lastore, 1, 0, 0, []), (.aload_n 0, 1, 0, 0, []), (.lload 12, 2, 0, 0, []), (.invokevirtual 928, 3, 1, 144, []), (.return_, 1, 0, 0, [])]
def Bwork_595 : List RI := [(.aload_n 0, 1, 0, 0, []), (.iload_n 1, 1, 0, 1, []), (.invokevirtual 962, 3, 1, 154, []), (.return_, 1, 0, 0, [])]
def Bwork_601 : List RI := [(.aload_n 0, 1, 0, 0, []), (.iload_n 1, 1, 0, 1, []), (.iload_n 2, 1, 0, 2, []), (.invokevirtual 965, 3, 2, 157, []), (.return_, 1, 0, 0, [])]
def Bwork : RB := [(0, Bwork_0), (108, Bwork_108), (119, Bwork_119), (129, Bwork_129), (138, Bwork_138), (153, Bwork_153), (157, Bwork_157), (193, Bwork_193), (197, Bwork_197), (200, Bwork_200), (217, Bwork_217), (222, Bwork_222), (228, Bwork_228), (240, Bwork_240), (258, Bwork_258), (265, Bwork_265), (283, Bwork_283), (289, Bwork_289), (300, Bwork_300), (309, Bwork_309), (311, Bwork_311), (314, Bwork_314), (318, Bwork_318), (337, Bwork_337), (370, Bwork_370), (386, Bwork_386), (390, Bwork_390), (391, Bwork_391), (402, Bwork_402), (406, Bwork_406), (407, Bwork_407), (410, Bwork_410), (425, Bwork_425), (435, Bwork_435), (436, Bwork_436), (445, Bwork_445), (457, Bwork_457), (458, Bwork_458), (471, Bwork_471), (490, Bwork_490), (501, Bwork_501), (547, Bwork_547), (554, Bwork_554), (555, Bwork_555), (595, Bwork_595), (601, Bwork_601)]
set_option maxRecDepth 100000 in
theorem swwork_20 : decode cX12_work 20 = .ok (.tableswitch 581 1 18 #[88, 99, 137, 137, 220, 298, 317, 350, 581, 350, 581, 416, 438, 581, 581, 451, 470, 575], 88) := by sorry
set_option maxRecDepth 100000 in
theorem okBwork : rokM cX12_work 16 none Bwork = true := by sorry
def Boperate_0 : List RI := [(.iload_n 1, 1, 0, 1, []), (.bipush 47, 2, 0, 0, []), (.if_icmp .eq 9, 3, 0, 12, [])]
def Boperate_6 : List RI := [(.iload_n 1, 1, 0, 1, []), (.bipush 37, 2, 0, 0, []), (.if_icmp .ne 20, 3, 0, 29, [])]
def Boperate_12 : List RI := [(.lload 5, 2, 0, 0, []), (.lconst 0, 1, 0, 0, []), (.lcmp, 1, 0, 0, []), (.ifCond .ne 13, 3, 0, 29, [])]
def Boperate_19 : List RI := [(.aload_n 0, 1, 0, 0, []), (.ldc2_w 739, 3, (-1), 0, []), (.invokevirtual 968, 3, 1, 149, []), (.goto 16, 3, 0, 42, [])]
def Boperate_29 : List RI := [(.aload_n 0, 1, 0, 0, []), (.aload_n 0, 1, 0, 0, []), (.iload_n 1, 1, 0, 1, []), (.iload_n 2, 1, 0, 2, []), (.lload_n 3, 1, 0, 3, []), (.lload 5, 2, 0, 0, []), (.invokevirtual 755, 3, 4, 97, []), (.invokevirtual 928, 3, 1, 144, [])]
def Boperate_42 : List RI := [(.return_, 1, 0, 0, [])]
def Boperate : RB := [(0, Boperate_0), (6, Boperate_6), (12, Boperate_12), (19, Boperate_19), (29, Boperate_29), (42, Boperate_42)]
set_option maxRecDepth 100000 in
theorem okBoperate : rokM cX12_operate 7 none Boperate = true := by sorry
def Bcall0_0 : List RI := [(.aload_n 0, 1, 0, 0, []), (.getfield 189, 3, 3, 83, []), (.iload_n 1, 1, 0, 1, []), (.iaload, 1, 0, 0, []), (.istore_n 2, 1, 0, 2, []), (.aload_n 0, 1, 0, 0, []), (.getfield 45, 3, 3, 20, []), (.iload_n 1, 1, 0, 1, []), (.iaload, 1, 0, 0, []), (.istore_n 3, 1, 0, 3, []), (.aload_n 0, 1, 0, 0, []), (.invokevirtual 946, 3, 0, 145, []), (.ifCond .ne 4, 3, 0, 22, [])]
def Bcall0_21 : List RI := [(.return_, 1, 0, 0, [])]
def Bcall0_22 : List RI := [(.iload_n 2, 1, 0, 2, []), (.bipush 10, 2, 0, 0, []), (.if_icmp .lt 46, 3, 0, 71, [])]
def Bcall0_28 : List RI := [(.aload_n 0, 1, 0, 0, []), (.getfield 913, 3, 0, 129, []), (.bipush 30, 2, 0, 0, []), (.if_icmp .ne 11, 3, 0, 45, [])]
def Bcall0_37 : List RI := [(.aload_n 0, 1, 0, 0, []), (.iconst 4, 1, 0, 0, []), (.putfield 910, 3, 0, 142, []), (.goto 28, 3, 0, 70, [])]
def Bcall0_45 : List RI := [(.iload_n 2, 1, 0, 2, []), (.bipush 11, 2, 0, 0, []), (.if_icmp .ne 14, 3, 0, 62, [])]
def Bcall0_51 : List RI := [(.aload_n 0, 1, 0, 0, []), (.aload_n 0, 1, 0, 0, []), (.invokevirtual 971, 3, 0, 155, []), (.invokevirtual 928, 3, 1, 144, []), (.goto 11, 3, 0, 70, [])]
def Bcall0_62 : List RI := [(.aload_n 0, 1, 0, 0, []), (.aload_n 0, 1, 0, 0, []), (.invokevirtual 955, 3, 0, 143, []), (.invokevirtual 974, 3, 1, 156, [])]
def Bcall0_70 : List RI := [(.return_, 1, 0, 0, [])]
def Bcall0_71 : List RI := [(.aload_n 0, 1, 0, 0, []), (.getfield 919, 3, 0, 141, []), (.istore 4, 2, 0, 0, []), (.aload_n 0, 1, 0, 0, []), (.iload_n 2, 1, 0, 2, []), (.iload 4, 2, 0, 0, []), (.invokevirtual 949, 3, 2, 150, []), (.ifCond .ne 4, 3, 0, 88, [])]
def Bcall0_87 : List RI := [(.return_, 1, 0, 0, [])]
def Bcall0_88 : List RI := [(.aload_n 0, 1, 0, 0, []), (.dup, 1, 0, 0, []), (.getfield 901, 3, 0, 128, []), (.iload_n 3, 1, 0, 3, []), (.isub, 1, 0, 0, []), (.putfield 901, 3, 0, 128, []), (.iconst 0, 1, 0, 0, []), (.istore 5, 2, 0, 0, [])]
def Bcall0_101 : List RI := [(.iload 5, 2, 0, 0, []), (.iload_n 3, 1, 0, 3, []), (.if_icmp .ge 39, 3, 0, 143, [])]
def Bcall0_107 : List RI := [(.aload_n 0, 1, 0, 0, []), (.getfield 277, 3, 5, 130, []), (.aload_n 0, 1, 0, 0, []), (.aload_n 0, 1, 0, 0, []), (.getfield 84, 3, 3, 40, []), (.iload_n 2, 1, 0, 2, []), (.iaload, 1, 0, 0, []), (.iload 5, 2, 0, 0, []), (.iadd, 1, 0, 0, []), (.invokevirtual 931, 3, 1, 146, []), (.aload_n 0, 1, 0, 0, []), (.getfield 274, 3, 5, 127, []), (.aload_n 0, 1, 0, 0, []), (.getfield 901, 3, 0, 128, []), (.iload 5, 2, 0, 0, []), (.iadd, 1, 0, 0, []), (.laload, 1, 0, 0, []), (.lastore, 1, 0, 0, []), (.iinc 5 1, 3, 0, 0, []), (.goto (-39), 3, 0, 101, [])]
def Bcall0_143 : List RI := [(.aload_n 0, 1, 0, 0, []), (.aload_n 0, 1, 0, 0, []), (.getfield 87, 3, 3, 41, []), (.iload_n 2, 1, 0, 2, []), (.iaload, 1, 0, 0, []), (.putfield 919, 3, 0, 141, []), (.return_, 1, 0, 0, [])]
def Bcall0 : RB := [(0, Bcall0_0), (21, Bcall0_21), (22, Bcall0_22), (28, Bcall0_28), (37, Bcall0_37), (45, Bcall0_45), (51, Bcall0_51), (62, Bcall0_62), (70, Bcall0_70), (71, Bcall0_71), (87, Bcall0_87), (88, Bcall0_88), (101, Bcall0_101), (107, Bcall0_107), (143, Bcall0_143)]
set_option maxRecDepth 100000 in
theorem okBcall0 : rokM cX12_call0 6 none Bcall0 = true := by sorry
def Bnext_0 : List RI := [(.aload_n 0, 1, 0, 0, []), (.dup, 1, 0, 0, []), (.getfield 937, 3, 0, 146, []), (.iconst 1, 1, 0, 0, []), (.iadd, 1, 0, 0, []), (.putfield 937, 3, 0, 146, []), (.aload_n 0, 1, 0, 0, []), (.getfield 937, 3, 0, 146, []), (.aload_n 0, 1, 0, 0, []), (.getfield 890, 3, 0, 123, []), (.if_icmp .gt 18, 3, 0, 36, [])]
def Bnext_21 : List RI := [(.aload_n 0, 1, 0, 0, []), (.getfield 262, 3, 3, 122, []), (.aload_n 0, 1, 0, 0, []), (.getfield 937, 3, 0, 146, []), (.iconst 1, 1, 0, 0, []), (.isub, 1, 0, 0, []), (.iaload, 1, 0, 0, []), (.i2l, 1, 0, 0, []), (.goto 4, 3, 0, 37, [])]
def Bnext_36 : List RI := [(.lconst 0, 1, 0, 0, [])]
def Bnext_37 : List RI := [(.lreturn, 1, 0, 0, [])]
def Bnext : RB := [(0, Bnext_0), (21, Bnext_21), (36, Bnext_36), (37, Bnext_37)]
set_option maxRecDepth 100000 in
theorem okBnext : rokM cX12_next 1 (some .long) Bnext = true := by sorry
def Btell_0 : List RI := [(.aload_n 0, 1, 0, 0, []), (.getfield 943, 3, 0, 148, []), (.sipush 200, 3, 0, 0, []), (.if_icmp .ne 9, 3, 0, 16, [])]
def Btell_10 : List RI := [(.aload_n 0, 1, 0, 0, []), (.iconst 5, 1, 0, 0, []), (.putfield 910, 3, 0, 142, []), (.return_, 1, 0, 0, [])]
def Btell_16 : List RI := [(.aload_n 0, 1, 0, 0, []), (.getfield 307, 3, 5, 149, []), (.aload_n 0, 1, 0, 0, []), (.getfield 943, 3, 0, 148, []), (.lload_n 1, 1, 0, 1, []), (.lastore, 1, 0, 0, []), (.aload_n 0, 1, 0, 0, []), (.dup, 1, 0, 0, []), (.getfield 943, 3, 0, 148, []), (.iconst 1, 1, 0, 0, []), (.iadd, 1, 0, 0, []), (.putfield 943, 3, 0, 148, []), (.return_, 1, 0, 0, [])]
def Btell : RB := [(0, Btell_0), (10, Btell_10), (16, Btell_16)]
set_option maxRecDepth 100000 in
theorem okBtell : rokM cX12_tell 3 none Btell = true := by sorry
def BworkStep_0 : List RI := [(.aload_n 0, 1, 0, 0, []), (.getfield 45, 3, 3, 20, []), (.iload_n 1, 1, 0, 1, []), (.iaload, 1, 0, 0, []), (.istore_n 3, 1, 0, 3, []), (.aload_n 0, 1, 0, 0, []), (.getfield 42, 3, 3, 19, []), (.iload_n 1, 1, 0, 1, []), (.iaload, 1, 0, 0, []), (.tableswitch 736 20 54 #[155, 175, 196, 231, 273, 736, 168, 286, 308, 736, 168, 319, 168, 341, 736, 395, 406, 419, 429, 736, 736, 736, 736, 736, 736, 736, 440, 455, 508, 551, 560, 627, 698, 723, 728], 155, 0, 749, [(20, 168), (21, 188), (22, 209), (23, 244), (24, 286), (25, 749), (26, 181), (27, 299), (28, 321), (29, 749), (30, 181), (31, 332), (32, 181), (33, 354), (34, 749), (35, 408), (36, 419), (37, 432), (38, 442), (39, 749), (40, 749), (41, 749), (42, 749), (43, 749), (44, 749), (45, 749), (46, 453), (47, 468), (48, 521), (49, 564), (50, 573), (51, 640), (52, 711), (53, 736), (54, 741)])]
def BworkStep_168 : List RI := [(.aload_n 0, 1, 0, 0, []), (.invokevirtual 946, 3, 0, 145, []), (.ifCond .eq 8, 3, 0, 180, [])]
def BworkStep_175 : List RI := [(.aload_n 0, 1, 0, 0, []), (.iload_n 2, 1, 0, 2, []), (.putfield 940, 3, 0, 147, [])]
def BworkStep_180 : List RI := [(.return_, 1, 0, 0, [])]
def BworkStep_181 : List RI := [(.aload_n 0, 1, 0, 0, []), (.invokevirtual 946, 3, 0, 145, []), (.istore 4, 2, 0, 0, []), (.return_, 1, 0, 0, [])]
def BworkStep_188 : List RI := [(.aload_n 0, 1, 0, 0, []), (.getfield 186, 3, 3, 82, []), (.iload_n 1, 1, 0, 1, []), (.iaload, 1, 0, 0, []), (.iconst 5, 1, 0, 0, []), (.if_icmp .eq 13, 3, 0, 208, [])]
def BworkStep_198 : List RI := [(.aload_n 0, 1, 0, 0, []), (.dup, 1, 0, 0, []), (.getfield 901, 3, 0, 128, []), (.iconst 1, 1, 0, 0, []), (.isub, 1, 0, 0, []), (.putfield 901, 3, 0, 128, [])]
def BworkStep_208 : List RI := [(.return_, 1, 0, 0, [])]
def BworkStep_209 : List RI := [(.aload_n 0, 1, 0, 0, []), (.getfield 48, 3, 3, 21, []), (.iload_n 1, 1, 0, 1, []), (.iaload, 1, 0, 0, []), (.iconst 1, 1, 0, 0, []), (.if_icmp .ne 27, 3, 0, 243, [])]
def BworkStep_219 : List RI := [(.aload_n 0, 1, 0, 0, []), (.getfield 277, 3, 5, 130, []), (.aload_n 0, 1, 0, 0, []), (.iload_n 3, 1, 0, 3, []), (.invokevirtual 931, 3, 1, 146, []), (.aload_n 0, 1, 0, 0, []), (.aload_n 0, 1, 0, 0, []), (.getfield 93, 3, 3, 44, []), (.iload_n 3, 1, 0, 3, []), (.iaload, 1, 0, 0, []), (.aload_n 0, 1, 0, 0, []), (.invokevirtual 955, 3, 0, 143, []), (.invokevirtual 741, 3, 2, 76, []), (.lastore, 1, 0, 0, [])]
def BworkStep_243 : List RI := [(.return_, 1, 0, 0, [])]
def BworkStep_244 : List RI := [(.aload_n 0, 1, 0, 0, []), (.invokevirtual 955, 3, 0, 143, []), (.lconst 0, 1, 0, 0, []), (.lcmp, 1, 0, 0, []), (.ifCond .ne 35, 3, 0, 285, [])]
def BworkStep_253 : List RI := [(.aload_n 0, 1, 0, 0, []), (.aload_n 0, 1, 0, 0, []), (.getfield 126, 3, 3, 56, []), (.iload_n 3, 1, 0, 3, []), (.iaload, 1, 0, 0, []), (.ifCond .lt 14, 3, 0, 274, [])]
def BworkStep_263 : List RI := [(.aload_n 0, 1, 0, 0, []), (.getfield 126, 3, 3, 56, []), (.iload_n 3, 1, 0, 3, []), (.iaload, 1, 0, 0, []), (.iconst 1, 1, 0, 0, []), (.iadd, 1, 0, 0, []), (.goto 11, 3, 0, 282, [])]
def BworkStep_274 : List RI := [(.aload_n 0, 1, 0, 0, []), (.getfield 123, 3, 3, 55, []), (.iload_n 3, 1, 0, 3, []), (.iaload, 1, 0, 0, []), (.iconst 1, 1, 0, 0, []), (.iadd, 1, 0, 0, [])]
def BworkStep_282 : List RI := [(.putfield 919, 3, 0, 141, [])]
def BworkStep_285 : List RI := [(.return_, 1, 0, 0, [])]
def BworkStep_286 : List RI := [(.aload_n 0, 1, 0, 0, []), (.aload_n 0, 1, 0, 0, []), (.getfield 123, 3, 3, 55, []), (.iload_n 3, 1, 0, 3, []), (.iaload, 1, 0, 0, []), (.iconst 1, 1, 0, 0, []), (.iadd, 1, 0, 0, []), (.putfield 919, 3, 0, 141, []), (.return_, 1, 0, 0, [])]
def BworkStep_299 : List RI := [(.aload_n 0, 1, 0, 0, []), (.invokevirtual 955, 3, 0, 143, []), (.lconst 0, 1, 0, 0, []), (.lcmp, 1, 0, 0, []), (.ifCond .ne 15, 3, 0, 320, [])]
def BworkStep_308 : List RI := [(.aload_n 0, 1, 0, 0, []), (.aload_n 0, 1, 0, 0, []), (.getfield 123, 3, 3, 55, []), (.iload_n 3, 1, 0, 3, []), (.iaload, 1, 0, 0, []), (.iconst 1, 1, 0, 0, []), (.iadd, 1, 0, 0, []), (.putfield 919, 3, 0, 141, [])]
def BworkStep_320 : List RI := [(.return_, 1, 0, 0, [])]
def BworkStep_321 : List RI := [(.aload_n 0, 1, 0, 0, []), (.aload_n 0, 1, 0, 0, []), (.getfield 111, 3, 3, 51, []), (.iload_n 3, 1, 0, 3, []), (.iaload, 1, 0, 0, []), (.putfield 919, 3, 0, 141, []), (.return_, 1, 0, 0, [])]
def BworkStep_332 : List RI := [(.aload_n 0, 1, 0, 0, []), (.invokevirtual 955, 3, 0, 143, []), (.lconst 0, 1, 0, 0, []), (.lcmp, 1, 0, 0, []), (.ifCond .eq 15, 3, 0, 353, [])]
def BworkStep_341 : List RI := [(.aload_n 0, 1, 0, 0, []), (.aload_n 0, 1, 0, 0, []), (.getfield 111, 3, 3, 51, []), (.iload_n 3, 1, 0, 3, []), (.iaload, 1, 0, 0, []), (.iconst 1, 1, 0, 0, []), (.iadd, 1, 0, 0, []), (.putfield 919, 3, 0, 141, [])]
def BworkStep_353 : List RI := [(.return_, 1, 0, 0, [])]
def BworkStep_354 : List RI := [(.aload_n 0, 1, 0, 0, []), (.getfield 48, 3, 3, 21, []), (.iload_n 1, 1, 0, 1, []), (.iaload, 1, 0, 0, []), (.ifCond .eq 12, 3, 0, 372, [])]
def BworkStep_363 : List RI := [(.aload_n 0, 1, 0, 0, []), (.invokevirtual 955, 3, 0, 143, []), (.lconst 0, 1, 0, 0, []), (.lcmp, 1, 0, 0, []), (.ifCond .eq 7, 3, 0, 376, [])]
def BworkStep_372 : List RI := [(.iconst 1, 1, 0, 0, []), (.goto 4, 3, 0, 377, [])]
def BworkStep_376 : List RI := [(.iconst 0, 1, 0, 0, [])]
def BworkStep_377 : List RI := [(.istore 5, 2, 0, 0, []), (.aload_n 0, 1, 0, 0, []), (.iload 5, 2, 0, 0, []), (.ifCond .eq 14, 3, 0, 396, [])]
def BworkStep_385 : List RI := [(.aload_n 0, 1, 0, 0, []), (.getfield 120, 3, 3, 54, []), (.iload_n 3, 1, 0, 3, []), (.iaload, 1, 0, 0, []), (.iconst 1, 1, 0, 0, []), (.iadd, 1, 0, 0, []), (.goto 11, 3, 0, 404, [])]
def BworkStep_396 : List RI := [(.aload_n 0, 1, 0, 0, []), (.getfield 123, 3, 3, 55, []), (.iload_n 3, 1, 0, 3, []), (.iaload, 1, 0, 0, []), (.iconst 1, 1, 0, 0, []), (.iadd, 1, 0, 0, [])]
def BworkStep_404 : List RI := [(.putfield 919, 3, 0, 141, []), (.return_, 1, 0, 0, [])]
def BworkStep_408 : List RI := [(.aload_n 0, 1, 0, 0, []), (.aload_n 0, 1, 0, 0, []), (.getfield 126, 3, 3, 56, []), (.iload_n 3, 1, 0, 3, []), (.iaload, 1, 0, 0, []), (.putfield 919, 3, 0, 141, []), (.return_, 1, 0, 0, [])]
def BworkStep_419 : List RI := [(.aload_n 0, 1, 0, 0, []), (.aload_n 0, 1, 0, 0, []), (.getfield 117, 3, 3, 53, []), (.iload_n 3, 1, 0, 3, []), (.iaload, 1, 0, 0, []), (.iconst 1, 1, 0, 0, []), (.iadd, 1, 0, 0, []), (.putfield 919, 3, 0, 141, []), (.return_, 1, 0, 0, [])]
def BworkStep_432 : List RI := [(.aload_n 0, 1, 0, 0, []), (.iload_n 3, 1, 0, 3, []), (.aload_n 0, 1, 0, 0, []), (.invokevirtual 955, 3, 0, 143, []), (.invokevirtual 977, 3, 2, 159, []), (.return_, 1, 0, 0, [])]
def BworkStep_442 : List RI := [(.aload_n 0, 1, 0, 0, []), (.dup, 1, 0, 0, []), (.getfield 901, 3, 0, 128, []), (.iconst 1, 1, 0, 0, []), (.isub, 1, 0, 0, []), (.putfield 901, 3, 0, 128, []), (.return_, 1, 0, 0, [])]
def BworkStep_453 : List RI := [(.aload_n 0, 1, 0, 0, []), (.iconst 1, 1, 0, 0, []), (.aload_n 0, 1, 0, 0, []), (.getfield 123, 3, 3, 55, []), (.iload_n 3, 1, 0, 3, []), (.iaload, 1, 0, 0, []), (.iconst 1, 1, 0, 0, []), (.iadd, 1, 0, 0, []), (.lconst 0, 1, 0, 0, []), (.invokevirtual 981, 3, 3, 147, []), (.return_, 1, 0, 0, [])]
def BworkStep_468 : List RI := [(.aload_n 0, 1, 0, 0, []), (.iconst 1, 1, 0, 0, []), (.aload_n 0, 1, 0, 0, []), (.getfield 108, 3, 3, 50, []), (.iload_n 3, 1, 0, 3, []), (.iaload, 1, 0, 0, []), (.iconst 4, 1, 0, 0, []), (.if_icmp .ne 12, 3, 0, 489, [])]
def BworkStep_480 : List RI := [(.aload_n 0, 1, 0, 0, []), (.getfield 111, 3, 3, 51, []), (.iload_n 3, 1, 0, 3, []), (.iaload, 1, 0, 0, []), (.goto 30, 3, 0, 516, [])]
def BworkStep_489 : List RI := [(.aload_n 0, 1, 0, 0, []), (.getfield 108, 3, 3, 50, []), (.iload_n 3, 1, 0, 3, []), (.iaload, 1, 0, 0, []), (.iconst 5, 1, 0, 0, []), (.if_icmp .ne 12, 3, 0, 508, [])]
def BworkStep_499 : List RI := [(.aload_n 0, 1, 0, 0, []), (.getfield 114, 3, 3, 52, []), (.iload_n 3, 1, 0, 3, []), (.iaload, 1, 0, 0, []), (.goto 11, 3, 0, 516, [])]
def BworkStep_508 : List RI := [(.aload_n 0, 1, 0, 0, []), (.getfield 117, 3, 3, 53, []), (.iload_n 3, 1, 0, 3, []), (.iaload, 1, 0, 0, []), (.iconst 1, 1, 0, 0, []), (.iadd, 1, 0, 0, [])]
def BworkStep_516 : List RI := [(.lconst 0, 1, 0, 0, []), (.invokevirtual 981, 3, 3, 147, []), (.return_, 1, 0, 0, [])]
def BworkStep_521 : List RI := [(.aload_n 0, 1, 0, 0, []), (.getfield 283, 3, 3, 132, []), (.aload_n 0, 1, 0, 0, []), (.getfield 913, 3, 0, 129, []), (.iconst 1, 1, 0, 0, []), (.isub, 1, 0, 0, []), (.iaload, 1, 0, 0, []), (.istore 6, 2, 0, 0, []), (.aload_n 0, 1, 0, 0, []), (.iconst 2, 1, 0, 0, []), (.iconst 0, 1, 0, 0, []), (.iload_n 3, 1, 0, 3, []), (.iconst 1, 1, 0, 0, []), (.if_icmp .ne 20, 3, 0, 559, [])]
def BworkStep_542 : List RI := [(.aload_n 0, 1, 0, 0, []), (.aload_n 0, 1, 0, 0, []), (.iload 6, 2, 0, 0, []), (.invokevirtual 778, 3, 1, 85, []), (.aload_n 0, 1, 0, 0, []), (.invokevirtual 955, 3, 0, 143, []), (.invokevirtual 741, 3, 2, 76, []), (.goto 4, 3, 0, 560, [])]
def BworkStep_559 : List RI := [(.lconst 0, 1, 0, 0, [])]
def BworkStep_560 : List RI := [(.invokevirtual 981, 3, 3, 147, []), (.return_, 1, 0, 0, [])]
def BworkStep_564 : List RI := [(.aload_n 0, 1, 0, 0, []), (.aload_n 0, 1, 0, 0, []), (.invokevirtual 955, 3, 0, 143, []), (.invokevirtual 968, 3, 1, 149, []), (.return_, 1, 0, 0, [])]
def BworkStep_573 : List RI := [(.aload_n 0, 1, 0, 0, []), (.getfield 286, 3, 3, 134, []), (.aload_n 0, 1, 0, 0, []), (.getfield 916, 3, 0, 133, []), (.iload_n 3, 1, 0, 3, []), (.iastore, 1, 0, 0, []), (.aload_n 0, 1, 0, 0, []), (.getfield 289, 3, 3, 135, []), (.aload_n 0, 1, 0, 0, []), (.getfield 916, 3, 0, 133, []), (.aload_n 0, 1, 0, 0, []), (.getfield 913, 3, 0, 129, []), (.iastore, 1, 0, 0, []), (.aload_n 0, 1, 0, 0, []), (.getfield 292, 3, 3, 136, []), (.aload_n 0, 1, 0, 0, []), (.getfield 916, 3, 0, 133, []), (.aload_n 0, 1, 0, 0, []), (.getfield 901, 3, 0, 128, []), (.iastore, 1, 0, 0, []), (.aload_n 0, 1, 0, 0, []), (.getfield 295, 3, 3, 137, []), (.aload_n 0, 1, 0, 0, []), (.getfield 916, 3, 0, 133, []), (.iconst 0, 1, 0, 0, []), (.iastore, 1, 0, 0, []), (.aload_n 0, 1, 0, 0, []), (.getfield 298, 3, 3, 138, []), (.aload_n 0, 1, 0, 0, []), (.getfield 916, 3, 0, 133, []), (.iconst 0, 1, 0, 0, []), (.iastore, 1, 0, 0, []), (.aload_n 0, 1, 0, 0, []), (.dup, 1, 0, 0, []), (.getfield 916, 3, 0, 133, []), (.iconst 1, 1, 0, 0, []), (.iadd, 1, 0, 0, []), (.putfield 916, 3, 0, 133, []), (.return_, 1, 0, 0, [])]
def BworkStep_640 : List RI := [(.aload_n 0, 1, 0, 0, []), (.getfield 132, 3, 3, 58, []), (.iload_n 3, 1, 0, 3, []), (.iaload, 1, 0, 0, []), (.ifCond .lt 42, 3, 0, 688, [])]
def BworkStep_649 : List RI := [(.aload_n 0, 1, 0, 0, []), (.getfield 295, 3, 3, 137, []), (.aload_n 0, 1, 0, 0, []), (.getfield 916, 3, 0, 133, []), (.iconst 1, 1, 0, 0, []), (.isub, 1, 0, 0, []), (.iconst 2, 1, 0, 0, []), (.iastore, 1, 0, 0, []), (.aload_n 0, 1, 0, 0, []), (.getfield 298, 3, 3, 138, []), (.aload_n 0, 1, 0, 0, []), (.getfield 916, 3, 0, 133, []), (.iconst 1, 1, 0, 0, []), (.isub, 1, 0, 0, []), (.iconst 0, 1, 0, 0, []), (.iastore, 1, 0, 0, []), (.aload_n 0, 1, 0, 0, []), (.aload_n 0, 1, 0, 0, []), (.getfield 132, 3, 3, 58, []), (.iload_n 3, 1, 0, 3, []), (.iaload, 1, 0, 0, []), (.iconst 1, 1, 0, 0, []), (.iadd, 1, 0, 0, []), (.putfield 919, 3, 0, 141, []), (.goto 25, 3, 0, 710, [])]
def BworkStep_688 : List RI := [(.aload_n 0, 1, 0, 0, []), (.dup, 1, 0, 0, []), (.getfield 916, 3, 0, 133, []), (.iconst 1, 1, 0, 0, []), (.isub, 1, 0, 0, []), (.putfield 916, 3, 0, 133, []), (.aload_n 0, 1, 0, 0, []), (.aload_n 0, 1, 0, 0, []), (.getfield 123, 3, 3, 55, []), (.iload_n 3, 1, 0, 3, []), (.iaload, 1, 0, 0, []), (.iconst 1, 1, 0, 0, []), (.iadd, 1, 0, 0, []), (.putfield 919, 3, 0, 141, [])]
def BworkStep_710 : List RI := [(.return_, 1, 0, 0, [])]
def BworkStep_711 : List RI := [(.aload_n 0, 1, 0, 0, []), (.getfield 295, 3, 3, 137, []), (.aload_n 0, 1, 0, 0, []), (.getfield 916, 3, 0, 133, []), (.iconst 1, 1, 0, 0, []), (.isub, 1, 0, 0, []), (.iconst 2, 1, 0, 0, []), (.iastore, 1, 0, 0, []), (.aload_n 0, 1, 0, 0, []), (.getfield 298, 3, 3, 138, []), (.aload_n 0, 1, 0, 0, []), (.getfield 916, 3, 0, 133, []), (.iconst 1, 1, 0, 0, []), (.isub, 1, 0, 0, []), (.iconst 0, 1, 0, 0, []), (.iastore, 1, 0, 0, []), (.return_, 1, 0, 0, [])]
def BworkStep_736 : List RI := [(.aload_n 0, 1, 0, 0, []), (.invokevirtual 984, 3, 0, 158, []), (.return_, 1, 0, 0, [])]
def BworkStep_741 : List RI := [(.aload_n 0, 1, 0, 0, []), (.iconst 2, 1, 0, 0, []), (.iconst 0, 1, 0, 0, []), (.lconst 0, 1, 0, 0, []), (.invokevirtual 981, 3, 3, 147, []), (.return_, 1, 0, 0, [])]
def BworkStep_749 : List RI := [(.return_, 1, 0, 0, [])]
def BworkStep : RB := [(0, BworkStep_0), (168, BworkStep_168), (175, BworkStep_175), (180, BworkStep_180), (181, BworkStep_181), (188, BworkStep_188), (198, BworkStep_198), (208, BworkStep_208), (209, BworkStep_209), (219, BworkStep_219), (243, BworkStep_243), (244, BworkStep_244), (253, BworkStep_253), (263, BworkStep_263), (274, BworkStep_274), (282, BworkStep_282), (285, BworkStep_285), (286, BworkStep_286), (299, BworkStep_299), (308, BworkStep_308), (320, BworkStep_320), (321, BworkStep_321), (332, BworkStep_332), (341, BworkStep_341), (353, BworkStep_353), (354, BworkStep_354), (363, BworkStep_363), (372, BworkStep_372), (376, BworkStep_376), (377, BworkStep_377), (385, BworkStep_385), (396, BworkStep_396), (404, BworkStep_404), (408, BworkStep_408), (419, BworkStep_419), (432, BworkStep_432), (442, BworkStep_442), (453, BworkStep_453), (468, BworkStep_468), (480, BworkStep_480), (489, BworkStep_489), (499, BworkStep_499), (508, BworkStep_508), (516, BworkStep_516), (521, BworkStep_521), (542, BworkStep_542), (559, BworkStep_559), (560, BworkStep_560), (564, BworkStep_564), (573, BworkStep_573), (640, BworkStep_640), (649, BworkStep_649), (688, BworkStep_688), (710, BworkStep_710), (711, BworkStep_711), (736, BworkStep_736), (741, BworkStep_741), (749, BworkStep_749)]
set_option maxRecDepth 100000 in
theorem swworkStep_13 : decode cX12_workStep 13 = .ok (.tableswitch 736 20 54 #[155, 175, 196, 231, 273, 736, 168, 286, 308, 736, 168, 319, 168, 341, 736, 395, 406, 419, 429, 736, 736, 736, 736, 736, 736, 736, 440, 455, 508, 551, 560, 627, 698, 723, 728], 155) := by sorry
set_option maxRecDepth 100000 in
theorem okBworkStep : rokM cX12_workStep 7 none BworkStep = true := by sorry
def Bover_0 : List RI := [(.aload_n 0, 1, 0, 0, []), (.dup, 1, 0, 0, []), (.getfield 916, 3, 0, 133, []), (.iconst 1, 1, 0, 0, []), (.isub, 1, 0, 0, []), (.putfield 916, 3, 0, 133, []), (.aload_n 0, 1, 0, 0, []), (.getfield 916, 3, 0, 133, []), (.istore_n 1, 1, 0, 1, []), (.aload_n 0, 1, 0, 0, []), (.getfield 295, 3, 3, 137, []), (.iload_n 1, 1, 0, 1, []), (.iaload, 1, 0, 0, []), (.iconst 2, 1, 0, 0, []), (.if_icmp .lt 12, 3, 0, 34, [])]
def Bover_25 : List RI := [(.aload_n 0, 1, 0, 0, []), (.getfield 298, 3, 3, 138, []), (.iload_n 1, 1, 0, 1, []), (.iaload, 1, 0, 0, []), (.ifCond .ne 4, 3, 0, 35, [])]
def Bover_34 : List RI := [(.return_, 1, 0, 0, [])]
def Bover_35 : List RI := [(.aload_n 0, 1, 0, 0, []), (.getfield 298, 3, 3, 138, []), (.iload_n 1, 1, 0, 1, []), (.iaload, 1, 0, 0, []), (.iconst 3, 1, 0, 0, []), (.if_icmp .ne 16, 3, 0, 58, [])]
def Bover_45 : List RI := [(.aload_n 0, 1, 0, 0, []), (.aload_n 0, 1, 0, 0, []), (.getfield 304, 3, 5, 140, []), (.iload_n 1, 1, 0, 1, []), (.laload, 1, 0, 0, []), (.invokevirtual 968, 3, 1, 149, []), (.goto 25, 3, 0, 80, [])]
def Bover_58 : List RI := [(.aload_n 0, 1, 0, 0, []), (.aload_n 0, 1, 0, 0, []), (.getfield 298, 3, 3, 138, []), (.iload_n 1, 1, 0, 1, []), (.iaload, 1, 0, 0, []), (.aload_n 0, 1, 0, 0, []), (.getfield 301, 3, 3, 139, []), (.iload_n 1, 1, 0, 1, []), (.iaload, 1, 0, 0, []), (.aload_n 0, 1, 0, 0, []), (.getfield 304, 3, 5, 140, []), (.iload_n 1, 1, 0, 1, []), (.laload, 1, 0, 0, []), (.invokevirtual 981, 3, 3, 147, [])]
def Bover_80 : List RI := [(.return_, 1, 0, 0, [])]
def Bover : RB := [(0, Bover_0), (25, Bover_25), (34, Bover_34), (35, Bover_35), (45, Bover_45), (58, Bover_58), (80, Bover_80)]
set_option maxRecDepth 100000 in
theorem okBover : rokM cX12_over 2 none Bover = true := by sorry
def Bchoose_0 : List RI := [(.aload_n 0, 1, 0, 0, []), (.aload_n 0, 1, 0, 0, []), (.getfield 135, 3, 3, 59, []), (.iload_n 1, 1, 0, 1, []), (.iaload, 1, 0, 0, []), (.ifCond .lt 14, 3, 0, 21, [])]
def Bchoose_10 : List RI := [(.aload_n 0, 1, 0, 0, []), (.getfield 135, 3, 3, 59, []), (.iload_n 1, 1, 0, 1, []), (.iaload, 1, 0, 0, []), (.iconst 1, 1, 0, 0, []), (.iadd, 1, 0, 0, []), (.goto 11, 3, 0, 29, [])]
def Bchoose_21 : List RI := [(.aload_n 0, 1, 0, 0, []), (.getfield 123, 3, 3, 55, []), (.iload_n 1, 1, 0, 1, []), (.iaload, 1, 0, 0, []), (.iconst 1, 1, 0, 0, []), (.iadd, 1, 0, 0, [])]
def Bchoose_29 : List RI := [(.putfield 919, 3, 0, 141, []), (.aload_n 0, 1, 0, 0, []), (.getfield 111, 3, 3, 51, []), (.iload_n 1, 1, 0, 1, []), (.iaload, 1, 0, 0, []), (.istore 4, 2, 0, 0, [])]
def Bchoose_40 : List RI := [(.iload 4, 2, 0, 0, []), (.aload_n 0, 1, 0, 0, []), (.getfield 123, 3, 3, 55, []), (.iload_n 1, 1, 0, 1, []), (.iaload, 1, 0, 0, []), (.if_icmp .ge 53, 3, 0, 101, [])]
def Bchoose_51 : List RI := [(.aload_n 0, 1, 0, 0, []), (.getfield 42, 3, 3, 19, []), (.iload 4, 2, 0, 0, []), (.iaload, 1, 0, 0, []), (.bipush 38, 2, 0, 0, []), (.if_icmp .ne 35, 3, 0, 95, [])]
def Bchoose_63 : List RI := [(.aload_n 0, 1, 0, 0, []), (.getfield 45, 3, 3, 20, []), (.iload 4, 2, 0, 0, []), (.iaload, 1, 0, 0, []), (.iload_n 1, 1, 0, 1, []), (.if_icmp .ne 24, 3, 0, 95, [])]
def Bchoose_74 : List RI := [(.aload_n 0, 1, 0, 0, []), (.getfield 195, 3, 5, 85, []), (.iload 4, 2, 0, 0, []), (.laload, 1, 0, 0, []), (.lload_n 2, 1, 0, 2, []), (.lcmp, 1, 0, 0, []), (.ifCond .ne 12, 3, 0, 95, [])]
def Bchoose_86 : List RI := [(.aload_n 0, 1, 0, 0, []), (.iload 4, 2, 0, 0, []), (.iconst 1, 1, 0, 0, []), (.iadd, 1, 0, 0, []), (.putfield 919, 3, 0, 141, []), (.return_, 1, 0, 0, [])]
def Bchoose_95 : List RI := [(.iinc 4 1, 3, 0, 0, []), (.goto (-58), 3, 0, 40, [])]
def Bchoose_101 : List RI := [(.return_, 1, 0, 0, [])]
def Bchoose : RB := [(0, Bchoose_0), (10, Bchoose_10), (21, Bchoose_21), (29, Bchoose_29), (40, Bchoose_40), (51, Bchoose_51), (63, Bchoose_63), (74, Bchoose_74), (86, Bchoose_86), (95, Bchoose_95), (101, Bchoose_101)]
set_option maxRecDepth 100000 in
theorem okBchoose : rokM cX12_choose 5 none Bchoose = true := by sorry
def Bran_0 : List RI := [(.aload_n 0, 1, 0, 0, []), (.getfield 878, 3, 1, 121, []), (.ifCond .ne 7, 3, 0, 11, [])]
def Bran_7 : List RI := [(.ldc2_w 899, 3, (-1234567890123), 0, []), (.lreturn, 1, 0, 0, [])]
def Bran_11 : List RI := [(.iload_n 1, 1, 0, 1, []), (.bipush 10, 2, 0, 0, []), (.if_icmp .lt 30, 3, 0, 44, [])]
def Bran_17 : List RI := [(.iload_n 1, 1, 0, 1, []), (.bipush 10, 2, 0, 0, []), (.aload_n 0, 1, 0, 0, []), (.getfield 943, 3, 0, 148, []), (.iadd, 1, 0, 0, []), (.if_icmp .ge 15, 3, 0, 40, [])]
def Bran_28 : List RI := [(.aload_n 0, 1, 0, 0, []), (.getfield 307, 3, 5, 149, []), (.iload_n 1, 1, 0, 1, []), (.bipush 10, 2, 0, 0, []), (.isub, 1, 0, 0, []), (.laload, 1, 0, 0, []), (.goto 6, 3, 0, 43, [])]
def Bran_40 : List RI := [(.ldc2_w 899, 3, (-1234567890123), 0, [])]
def Bran_43 : List RI := [(.lreturn, 1, 0, 0, [])]
def Bran_44 : List RI := [(.iload_n 1, 1, 0, 1, []), (.tableswitch 77 0 4 #[35, 40, 46, 52, 58], 35, 0, 122, [(0, 80), (1, 85), (2, 91), (3, 97), (4, 103)])]
def Bran_80 : List RI := [(.aload_n 0, 1, 0, 0, []), (.getfield 925, 3, 2, 143, []), (.lreturn, 1, 0, 0, [])]
def Bran_85 : List RI := [(.aload_n 0, 1, 0, 0, []), (.getfield 904, 3, 0, 144, []), (.i2l, 1, 0, 0, []), (.lreturn, 1, 0, 0, [])]
def Bran_91 : List RI := [(.aload_n 0, 1, 0, 0, []), (.getfield 943, 3, 0, 148, []), (.i2l, 1, 0, 0, []), (.lreturn, 1, 0, 0, [])]
def Bran_97 : List RI := [(.aload_n 0, 1, 0, 0, []), (.getfield 937, 3, 0, 146, []), (.i2l, 1, 0, 0, []), (.lreturn, 1, 0, 0, [])]
def Bran_103 : List RI := [(.aload_n 0, 1, 0, 0, []), (.getfield 940, 3, 0, 147, []), (.ifCond .ge 9, 3, 0, 116, [])]
def Bran_110 : List RI := [(.ldc2_w 899, 3, (-1234567890123), 0, []), (.goto 8, 3, 0, 121, [])]
def Bran_116 : List RI := [(.aload_n 0, 1, 0, 0, []), (.getfield 940, 3, 0, 147, []), (.i2l, 1, 0, 0, [])]
def Bran_121 : List RI := [(.lreturn, 1, 0, 0, [])]
def Bran_122 : List RI := [(.ldc2_w 899, 3, (-1234567890123), 0, []), (.lreturn, 1, 0, 0, [])]
def Bran : RB := [(0, Bran_0), (7, Bran_7), (11, Bran_11), (17, Bran_17), (28, Bran_28), (40, Bran_40), (43, Bran_43), (44, Bran_44), (80, Bran_80), (85, Bran_85), (91, Bran_91), (97, Bran_97), (103, Bran_103), (110, Bran_110), (116, Bran_116), (121, Bran_121), (122, Bran_122)]
set_option maxRecDepth 100000 in
theorem swran_45 : decode cX12_ran 45 = .ok (.tableswitch 77 0 4 #[35, 40, 46, 52, 58], 35) := by sorry
set_option maxRecDepth 100000 in
theorem okBran : rokM cX12_ran 2 (some .long) Bran = true := by sorry
/-! what a walk over blocks needs -/
def rfd (bs : RB) (pc : Nat) : Option (List RI) := match bs with
  | [] => none
  | b :: r => match Nat.beq b.1 pc with
    | true => some b.2
    | false => rfd r pc
theorem rfd_mem {bs : RB} {pc : Nat} {is : List RI} (h : rfd bs pc = some is) : (pc, is) ∈ bs := by sorry
def rgo (bs : RB) (ct : RC) (G : RK) (Z : Option Value → RS → Prop) : RK := fun pc ls st σ => match rfd bs pc with
  | some is => rwp ct G Z is pc ls st σ
  | none => False
theorem RMet.by {l : Launch} {lev μ : Nat} {P : RP} {Q : RQ} {r : RM} (bs : RB) (ct : RC) (hr : mtab[μ]? = some r) (hok : rokM r.2.1 r.2.2.1 r.2.2.2.1 bs = true) (hct : ∀ q ∈ ct, ∃ lv, lv < lev ∧ RMet l lv q.1 q.2.1 q.2.2)
    (hlen : ∀ (As : List Value) (σ : RS), P As σ → (lg_sl (.ref 1000 :: As)).length ≤ r.2.2.1)
    (body : ∀ (As : List Value) (σ : RS), P As σ → ∀ G : RK, (∀ (pc : Nat) (ls : RL) (st : List Value) (τ : RS), rgo bs ct G (Q As σ) pc ls st τ → G pc ls st τ) → (∀ (pc : Nat) (ls ls' : RL) (st : List Value) (τ : RS), (∀ q ∈ ls, q ∈ ls') → G pc ls st τ → G pc ls' st τ) → G 0 (lv_args 0 (.ref 1000 :: As)) [] σ) : RMet l lev μ P Q := by sorry
theorem ct0 {l : Launch} {lev : Nat} : ∀ q ∈ ([] : RC), ∃ lv, lv < lev ∧ RMet l lv q.1 q.2.1 q.2.2 := fun _ h => absurd h List.not_mem_nil
theorem ctc {l : Launch} {lev lv μ : Nat} {P : RP} {Q : RQ} {r : RC} (h : RMet l lv μ P Q) (hl : lv < lev) (hr : ∀ q ∈ r, ∃ lv, lv < lev ∧ RMet l lv q.1 q.2.1 q.2.2) : ∀ q ∈ (μ, P, Q) :: r, ∃ lv, lv < lev ∧ RMet l lv q.1 q.2.1 q.2.2 := by sorry
theorem gI_sI {σ : RS} {k j : Nat} {v : Int32} : gI (sI σ k v) j = match Nat.beq j k with
  | true => v
  | false => gI σ j := rfl
theorem gI_sL {σ : RS} {k j : Nat} {v : Int64} : gI (sL σ k v) j = gI σ j := rfl
theorem gI_sA {σ : RS} {k j : Nat} {f : Nat → Int32} : gI (sA σ k f) j = gI σ j := rfl
theorem gI_sM {σ : RS} {k j : Nat} {f : Nat → Int64} : gI (sM σ k f) j = gI σ j := rfl
theorem gL_sI {σ : RS} {k j : Nat} {v : Int32} : gL (sI σ k v) j = gL σ j := rfl
theorem gL_sL {σ : RS} {k j : Nat} {v : Int64} : gL (sL σ k v) j = match Nat.beq j k with
  | true => v
  | false => gL σ j := rfl
theorem gL_sA {σ : RS} {k j : Nat} {f : Nat → Int32} : gL (sA σ k f) j = gL σ j := rfl
theorem gL_sM {σ : RS} {k j : Nat} {f : Nat → Int64} : gL (sM σ k f) j = gL σ j := rfl
theorem aI_sI {σ : RS} {k j : Nat} {v : Int32} : aI (sI σ k v) j = aI σ j := rfl
theorem aI_sL {σ : RS} {k j : Nat} {v : Int64} : aI (sL σ k v) j = aI σ j := rfl
theorem aI_sA {σ : RS} {k j : Nat} {f : Nat → Int32} : aI (sA σ k f) j = match Nat.beq j k with
  | true => f
  | false => aI σ j := rfl
theorem aI_sM {σ : RS} {k j : Nat} {f : Nat → Int64} : aI (sM σ k f) j = aI σ j := rfl
theorem aL_sI {σ : RS} {k j : Nat} {v : Int32} : aL (sI σ k v) j = aL σ j := rfl
theorem aL_sL {σ : RS} {k j : Nat} {v : Int64} : aL (sL σ k v) j = aL σ j := rfl
theorem aL_sA {σ : RS} {k j : Nat} {f : Nat → Int32} : aL (sA σ k f) j = aL σ j := rfl
theorem aL_sM {σ : RS} {k j : Nat} {f : Nat → Int64} : aL (sM σ k f) j = match Nat.beq j k with
  | true => f
  | false => aL σ j := rfl
theorem in32 {j : Int32} {n : Nat} (m : Int32) (hm : m = nI n) (hn : n < 2 ^ 31) (h0 : 0 ≤ j) (h1 : j < m) : vp_in j n := by sorry
set_option maxRecDepth 100000 in
theorem rofeed : mtab[0]? = some (yX12_feed, cX12_feed, 6, (some .int), 5) := rfl
set_option maxRecDepth 100000 in
theorem rolay : mtab[1]? = some (yX12_lay, cX12_lay, 3, none, 1) := rfl
set_option maxRecDepth 100000 in
theorem rocut : mtab[2]? = some (yX12_cut, cX12_cut, 2, (some .int), 1) := rfl
set_option maxRecDepth 100000 in
theorem roat : mtab[3]? = some (yX12_at, cX12_at, 2, (some .int), 1) := rfl
set_option maxRecDepth 100000 in
theorem roisLetter : mtab[4]? = some (yX12_isLetter, cX12_isLetter, 2, (some .boolean), 1) := rfl
set_option maxRecDepth 100000 in
theorem roisDigit : mtab[5]? = some (yX12_isDigit, cX12_isDigit, 2, (some .boolean), 1) := rfl
set_option maxRecDepth 100000 in
theorem rolexer : mtab[6]? = some (yX12_lexer, cX12_lexer, 4, none, 0) := rfl
set_option maxRecDepth 100000 in
theorem roword : mtab[7]? = some (yX12_word, cX12_word, 7, none, 1) := rfl
set_option maxRecDepth 100000 in
theorem rowordOf : mtab[8]? = some (yX12_wordOf, cX12_wordOf, 3, (some .int), 1) := rfl
set_option maxRecDepth 100000 in
theorem ronumber : mtab[9]? = some (yX12_number, cX12_number, 7, none, 1) := rfl
set_option maxRecDepth 100000 in
theorem rocharacter : mtab[10]? = some (yX12_character, cX12_character, 4, none, 1) := rfl
set_option maxRecDepth 100000 in
theorem rosign : mtab[11]? = some (yX12_sign, cX12_sign, 10, none, 1) := rfl
set_option maxRecDepth 100000 in
theorem rowrong : mtab[12]? = some (yX12_wrong, cX12_wrong, 3, (some .boolean), 2) := rfl
set_option maxRecDepth 100000 in
theorem rocant : mtab[13]? = some (yX12_cant, cX12_cant, 1, (some .boolean), 0) := rfl
set_option maxRecDepth 100000 in
theorem roisSign : mtab[14]? = some (yX12_isSign, cX12_isSign, 2, (some .boolean), 1) := rfl
set_option maxRecDepth 100000 in
theorem roisWord : mtab[15]? = some (yX12_isWord, cX12_isWord, 2, (some .boolean), 1) := rfl
set_option maxRecDepth 100000 in
theorem roisSignAt : mtab[16]? = some (yX12_isSignAt, cX12_isSignAt, 3, (some .boolean), 2) := rfl
set_option maxRecDepth 100000 in
theorem rotake : mtab[17]? = some (yX12_take, cX12_take, 1, (some .boolean), 0) := rfl
set_option maxRecDepth 100000 in
theorem rowant : mtab[18]? = some (yX12_want, cX12_want, 2, (some .boolean), 1) := rfl
set_option maxRecDepth 100000 in
theorem roenter : mtab[19]? = some (yX12_enter, cX12_enter, 1, (some .boolean), 0) := rfl
set_option maxRecDepth 100000 in
theorem roemit : mtab[20]? = some (yX12_emit, cX12_emit, 5, (some .int), 3) := rfl
set_option maxRecDepth 100000 in
theorem roemitExp : mtab[21]? = some (yX12_emitExp, cX12_emitExp, 7, (some .int), 5) := rfl
set_option maxRecDepth 100000 in
theorem rostrength : mtab[22]? = some (yX12_strength, cX12_strength, 2, (some .int), 1) := rfl
set_option maxRecDepth 100000 in
theorem roisType : mtab[23]? = some (yX12_isType, cX12_isType, 2, (some .boolean), 1) := rfl
set_option maxRecDepth 100000 in
theorem roisSetAt : mtab[24]? = some (yX12_isSetAt, cX12_isSetAt, 2, (some .boolean), 1) := rfl
set_option maxRecDepth 100000 in
theorem ropush : mtab[25]? = some (yX12_push, cX12_push, 4, (some .boolean), 3) := rfl
set_option maxRecDepth 100000 in
theorem rowhole : mtab[26]? = some (yX12_whole, cX12_whole, 2, none, 1) := rfl
set_option maxRecDepth 100000 in
theorem roexpression : mtab[27]? = some (yX12_expression, cX12_expression, 3, (some .boolean), 0) := rfl
set_option maxRecDepth 100000 in
theorem rowait : mtab[28]? = some (yX12_wait, cX12_wait, 2, (some .boolean), 1) := rfl
set_option maxRecDepth 100000 in
theorem rooperand : mtab[29]? = some (yX12_operand, cX12_operand, 6, (some .boolean), 1) := rfl
set_option maxRecDepth 100000 in
theorem ronamed : mtab[30]? = some (yX12_named, cX12_named, 5, (some .boolean), 1) := rfl
set_option maxRecDepth 100000 in
theorem rocloseCall : mtab[31]? = some (yX12_closeCall, cX12_closeCall, 3, (some .boolean), 0) := rfl
set_option maxRecDepth 100000 in
theorem roreduce : mtab[32]? = some (yX12_reduce, cX12_reduce, 8, none, 1) := rfl
set_option maxRecDepth 100000 in
theorem rocomplete : mtab[33]? = some (yX12_complete, cX12_complete, 4, none, 0) := rfl
set_option maxRecDepth 100000 in
theorem robehind : mtab[34]? = some (yX12_behind, cX12_behind, 6, (some .boolean), 0) := rfl
set_option maxRecDepth 100000 in
theorem rothing : mtab[35]? = some (yX12_thing, cX12_thing, 4, (some .int), 2) := rfl
set_option maxRecDepth 100000 in
theorem roopen : mtab[36]? = some (yX12_open, cX12_open, 4, (some .boolean), 3) := rfl
set_option maxRecDepth 100000 in
theorem roparse : mtab[37]? = some (yX12_parse, cX12_parse, 1, (some .boolean), 0) := rfl
set_option maxRecDepth 100000 in
theorem romethod : mtab[38]? = some (yX12_method, cX12_method, 5, (some .boolean), 0) := rfl
set_option maxRecDepth 100000 in
theorem roparam : mtab[39]? = some (yX12_param, cX12_param, 5, (some .boolean), 2) := rfl
set_option maxRecDepth 100000 in
theorem rovariable : mtab[40]? = some (yX12_variable, cX12_variable, 5, (some .boolean), 3) := rfl
set_option maxRecDepth 100000 in
theorem roscope : mtab[41]? = some (yX12_scope, cX12_scope, 2, (some .int), 0) := rfl
set_option maxRecDepth 100000 in
theorem roleave : mtab[42]? = some (yX12_leave, cX12_leave, 4, none, 2) := rfl
set_option maxRecDepth 100000 in
theorem roisRow : mtab[43]? = some (yX12_isRow, cX12_isRow, 2, (some .boolean), 1) := rfl
set_option maxRecDepth 100000 in
theorem ropiece : mtab[44]? = some (yX12_piece, cX12_piece, 2, (some .boolean), 0) := rfl
set_option maxRecDepth 100000 in
theorem rogrouped : mtab[45]? = some (yX12_grouped, cX12_grouped, 4, (some .boolean), 0) := rfl
set_option maxRecDepth 100000 in
theorem roisTold : mtab[46]? = some (yX12_isTold, cX12_isTold, 1, (some .boolean), 0) := rfl
set_option maxRecDepth 100000 in
theorem rotold : mtab[47]? = some (yX12_told, cX12_told, 2, (some .boolean), 0) := rfl
set_option maxRecDepth 100000 in
theorem rodeclaration : mtab[48]? = some (yX12_declaration, cX12_declaration, 8, (some .boolean), 1) := rfl
set_option maxRecDepth 100000 in
theorem rostatement : mtab[49]? = some (yX12_statement, cX12_statement, 4, (some .boolean), 0) := rfl
set_option maxRecDepth 100000 in
theorem roplain : mtab[50]? = some (yX12_plain, cX12_plain, 2, (some .boolean), 0) := rfl
set_option maxRecDepth 100000 in
theorem ropop : mtab[51]? = some (yX12_pop, cX12_pop, 3, none, 0) := rfl
set_option maxRecDepth 100000 in
theorem rocondition : mtab[52]? = some (yX12_condition, cX12_condition, 1, (some .boolean), 0) := rfl
set_option maxRecDepth 100000 in
theorem roifOf : mtab[53]? = some (yX12_ifOf, cX12_ifOf, 4, (some .boolean), 0) := rfl
set_option maxRecDepth 100000 in
theorem rowhileOf : mtab[54]? = some (yX12_whileOf, cX12_whileOf, 4, (some .boolean), 0) := rfl
set_option maxRecDepth 100000 in
theorem rodoOf : mtab[55]? = some (yX12_doOf, cX12_doOf, 4, (some .boolean), 0) := rfl
set_option maxRecDepth 100000 in
theorem roexps : mtab[56]? = some (yX12_exps, cX12_exps, 2, (some .boolean), 0) := rfl
set_option maxRecDepth 100000 in
theorem roforOf : mtab[57]? = some (yX12_forOf, cX12_forOf, 6, (some .boolean), 0) := rfl
set_option maxRecDepth 100000 in
theorem roswitchOf : mtab[58]? = some (yX12_switchOf, cX12_switchOf, 4, (some .boolean), 0) := rfl
set_option maxRecDepth 100000 in
theorem rolabel : mtab[59]? = some (yX12_label, cX12_label, 5, (some .boolean), 0) := rfl
set_option maxRecDepth 100000 in
theorem rocloseSwitch : mtab[60]? = some (yX12_closeSwitch, cX12_closeSwitch, 3, (some .boolean), 0) := rfl
set_option maxRecDepth 100000 in
theorem roclosed : mtab[61]? = some (yX12_closed, cX12_closed, 2, (some .boolean), 1) := rfl
set_option maxRecDepth 100000 in
theorem rojump : mtab[62]? = some (yX12_jump, cX12_jump, 8, (some .boolean), 0) := rfl
set_option maxRecDepth 100000 in
theorem rosameName : mtab[63]? = some (yX12_sameName, cX12_sameName, 3, (some .boolean), 2) := rfl
set_option maxRecDepth 100000 in
theorem ronamed_ : mtab[64]? = some (yX12_named_, cX12_named_, 5, (some .int), 2) := rfl
set_option maxRecDepth 100000 in
theorem rogives : mtab[65]? = some (yX12_gives, cX12_gives, 6, (some .boolean), 0) := rfl
set_option maxRecDepth 100000 in
theorem rotryOf : mtab[66]? = some (yX12_tryOf, cX12_tryOf, 4, (some .boolean), 0) := rfl
set_option maxRecDepth 100000 in
theorem rocloseRow : mtab[67]? = some (yX12_closeRow, cX12_closeRow, 5, (some .boolean), 1) := rfl
set_option maxRecDepth 100000 in
theorem rocloseTry : mtab[68]? = some (yX12_closeTry, cX12_closeTry, 4, (some .boolean), 3) := rfl
set_option maxRecDepth 100000 in
theorem rofinished : mtab[69]? = some (yX12_finished, cX12_finished, 5, (some .boolean), 0) := rfl
set_option maxRecDepth 100000 in
theorem roerr : mtab[70]? = some (yX12_err, cX12_err, 4, none, 2) := rfl
set_option maxRecDepth 100000 in
theorem rofind : mtab[71]? = some (yX12_find, cX12_find, 3, (some .int), 1) := rfl
set_option maxRecDepth 100000 in
theorem roisNumber : mtab[72]? = some (yX12_isNumber, cX12_isNumber, 2, (some .boolean), 1) := rfl
set_option maxRecDepth 100000 in
theorem rowidens : mtab[73]? = some (yX12_widens, cX12_widens, 3, (some .boolean), 2) := rfl
set_option maxRecDepth 100000 in
theorem roholdsValue : mtab[74]? = some (yX12_holdsValue, cX12_holdsValue, 4, (some .boolean), 2) := rfl
set_option maxRecDepth 100000 in
theorem rofits : mtab[75]? = some (yX12_fits, cX12_fits, 4, (some .boolean), 2) := rfl
set_option maxRecDepth 100000 in
theorem rocast : mtab[76]? = some (yX12_cast, cX12_cast, 4, (some .long), 2) := rfl
set_option maxRecDepth 100000 in
theorem rolie : mtab[77]? = some (yX12_lie, cX12_lie, 6, none, 4) := rfl
set_option maxRecDepth 100000 in
theorem ronone : mtab[78]? = some (yX12_none, cX12_none, 2, none, 1) := rfl
set_option maxRecDepth 100000 in
theorem roisBad : mtab[79]? = some (yX12_isBad, cX12_isBad, 2, (some .boolean), 1) := rfl
set_option maxRecDepth 100000 in
theorem roneed : mtab[80]? = some (yX12_need, cX12_need, 3, (some .boolean), 2) := rfl
set_option maxRecDepth 100000 in
theorem rowide : mtab[81]? = some (yX12_wide, cX12_wide, 2, (some .int), 1) := rfl
set_option maxRecDepth 100000 in
theorem rojudgeAll : mtab[82]? = some (yX12_judgeAll, cX12_judgeAll, 2, none, 0) := rfl
set_option maxRecDepth 100000 in
theorem rotypeOfParam : mtab[83]? = some (yX12_typeOfParam, cX12_typeOfParam, 3, (some .int), 2) := rfl
set_option maxRecDepth 100000 in
theorem roparamsOf : mtab[84]? = some (yX12_paramsOf, cX12_paramsOf, 2, (some .int), 1) := rfl
set_option maxRecDepth 100000 in
theorem roresultOf : mtab[85]? = some (yX12_resultOf, cX12_resultOf, 2, (some .int), 1) := rfl
set_option maxRecDepth 100000 in
theorem roisNamed : mtab[86]? = some (yX12_isNamed, cX12_isNamed, 5, (some .boolean), 2) := rfl
set_option maxRecDepth 100000 in
theorem romethodsTold : mtab[87]? = some (yX12_methodsTold, cX12_methodsTold, 6, none, 0) := rfl
set_option maxRecDepth 100000 in
theorem rojudgeExp : mtab[88]? = some (yX12_judgeExp, cX12_judgeExp, 9, none, 1) := rfl
set_option maxRecDepth 100000 in
theorem roliteral : mtab[89]? = some (yX12_literal, cX12_literal, 5, none, 2) := rfl
set_option maxRecDepth 100000 in
theorem rostep : mtab[90]? = some (yX12_step, cX12_step, 5, none, 2) := rfl
set_option maxRecDepth 100000 in
theorem rounary : mtab[91]? = some (yX12_unary, cX12_unary, 8, none, 1) := rfl
set_option maxRecDepth 100000 in
theorem rocasts : mtab[92]? = some (yX12_casts, cX12_casts, 2, none, 1) := rfl
set_option maxRecDepth 100000 in
theorem roisShift : mtab[93]? = some (yX12_isShift, cX12_isShift, 2, (some .boolean), 1) := rfl
set_option maxRecDepth 100000 in
theorem roisBits : mtab[94]? = some (yX12_isBits, cX12_isBits, 2, (some .boolean), 1) := rfl
set_option maxRecDepth 100000 in
theorem robinary : mtab[95]? = some (yX12_binary, cX12_binary, 10, none, 1) := rfl
set_option maxRecDepth 100000 in
theorem ropair : mtab[96]? = some (yX12_pair, cX12_pair, 3, (some .boolean), 2) := rfl
set_option maxRecDepth 100000 in
theorem roreckon : mtab[97]? = some (yX12_reckon, cX12_reckon, 7, (some .long), 4) := rfl
set_option maxRecDepth 100000 in
theorem rochoice : mtab[98]? = some (yX12_choice, cX12_choice, 10, none, 1) := rfl
set_option maxRecDepth 100000 in
theorem roisHeld : mtab[99]? = some (yX12_isHeld, cX12_isHeld, 3, (some .boolean), 2) := rfl
set_option maxRecDepth 100000 in
theorem roassign : mtab[100]? = some (yX12_assign, cX12_assign, 9, none, 2) := rfl
set_option maxRecDepth 100000 in
theorem rotakes : mtab[101]? = some (yX12_takes, cX12_takes, 6, (some .boolean), 3) := rfl
set_option maxRecDepth 100000 in
theorem roisCloser : mtab[102]? = some (yX12_isCloser, cX12_isCloser, 5, (some .boolean), 2) := rfl
set_option maxRecDepth 100000 in
theorem roisMethod : mtab[103]? = some (yX12_isMethod, cX12_isMethod, 2, (some .boolean), 1) := rfl
set_option maxRecDepth 100000 in
theorem rocall : mtab[104]? = some (yX12_call, cX12_call, 10, none, 2) := rfl
set_option maxRecDepth 100000 in
theorem rojudgeStep : mtab[105]? = some (yX12_judgeStep, cX12_judgeStep, 7, none, 1) := rfl
set_option maxRecDepth 100000 in
theorem rokeep : mtab[106]? = some (yX12_keep, cX12_keep, 2, none, 1) := rfl
set_option maxRecDepth 100000 in
theorem rodeclared : mtab[107]? = some (yX12_declared, cX12_declared, 3, none, 2) := rfl
set_option maxRecDepth 100000 in
theorem rocased : mtab[108]? = some (yX12_cased, cX12_cased, 4, none, 2) := rfl
set_option maxRecDepth 100000 in
theorem roreturns : mtab[109]? = some (yX12_returns, cX12_returns, 4, none, 2) := rfl
set_option maxRecDepth 100000 in
theorem rolateErr : mtab[110]? = some (yX12_lateErr, cX12_lateErr, 4, none, 2) := rfl
set_option maxRecDepth 100000 in
theorem ronow : mtab[111]? = some (yX12_now, cX12_now, 1, (some .long), 0) := rfl
set_option maxRecDepth 100000 in
theorem robe : mtab[112]? = some (yX12_be, cX12_be, 3, none, 1) := rfl
set_option maxRecDepth 100000 in
theorem roflow : mtab[113]? = some (yX12_flow, cX12_flow, 3, none, 0) := rfl
set_option maxRecDepth 100000 in
theorem rostart : mtab[114]? = some (yX12_start, cX12_start, 5, none, 1) := rfl
set_option maxRecDepth 100000 in
theorem rovalue : mtab[115]? = some (yX12_value, cX12_value, 3, none, 2) := rfl
set_option maxRecDepth 100000 in
theorem rosided : mtab[116]? = some (yX12_sided, cX12_sided, 4, none, 1) := rfl
set_option maxRecDepth 100000 in
theorem roflowExp : mtab[117]? = some (yX12_flowExp, cX12_flowExp, 7, none, 1) := rfl
set_option maxRecDepth 100000 in
theorem rofindAt : mtab[118]? = some (yX12_findAt, cX12_findAt, 2, (some .int), 1) := rfl
set_option maxRecDepth 100000 in
theorem rocome : mtab[119]? = some (yX12_come, cX12_come, 6, (some .long), 2) := rfl
set_option maxRecDepth 100000 in
theorem rodead : mtab[120]? = some (yX12_dead, cX12_dead, 1, none, 0) := rfl
set_option maxRecDepth 100000 in
theorem roflowStep : mtab[121]? = some (yX12_flowStep, cX12_flowStep, 8, (some .int), 1) := rfl
set_option maxRecDepth 100000 in
theorem roended : mtab[122]? = some (yX12_ended, cX12_ended, 3, none, 1) := rfl
set_option maxRecDepth 100000 in
theorem roread : mtab[123]? = some (yX12_read, cX12_read, 5, (some .int), 0) := rfl
set_option maxRecDepth 100000 in
theorem roplace : mtab[124]? = some (yX12_place, cX12_place, 1, (some .int), 0) := rfl
set_option maxRecDepth 100000 in
theorem roisGood : mtab[125]? = some (yX12_isGood, cX12_isGood, 1, (some .boolean), 0) := rfl
set_option maxRecDepth 100000 in
theorem rojudge : mtab[126]? = some (yX12_judge, cX12_judge, 2, (some .int), 0) := rfl
set_option maxRecDepth 100000 in
theorem rotokens : mtab[127]? = some (yX12_tokens, cX12_tokens, 1, (some .int), 0) := rfl
set_option maxRecDepth 100000 in
theorem rotold_ : mtab[128]? = some (yX12_told_, cX12_told_, 2, (some .int), 1) := rfl
set_option maxRecDepth 100000 in
theorem roisToken : mtab[129]? = some (yX12_isToken, cX12_isToken, 2, (some .boolean), 1) := rfl
set_option maxRecDepth 100000 in
theorem rotoken : mtab[130]? = some (yX12_token, cX12_token, 3, (some .int), 2) := rfl
set_option maxRecDepth 100000 in
theorem romethod_ : mtab[131]? = some (yX12_method_, cX12_method_, 3, (some .int), 2) := rfl
set_option maxRecDepth 100000 in
theorem rovariable_ : mtab[132]? = some (yX12_variable_, cX12_variable_, 3, (some .int), 2) := rfl
set_option maxRecDepth 100000 in
theorem romeans : mtab[133]? = some (yX12_means, cX12_means, 2, (some .int), 1) := rfl
set_option maxRecDepth 100000 in
theorem roexpAt : mtab[134]? = some (yX12_expAt, cX12_expAt, 5, (some .int), 2) := rfl
set_option maxRecDepth 100000 in
theorem rotype : mtab[135]? = some (yX12_type, cX12_type, 4, (some .int), 2) := rfl
set_option maxRecDepth 100000 in
theorem roconstant : mtab[136]? = some (yX12_constant, cX12_constant, 4, (some .long), 2) := rfl
set_option maxRecDepth 100000 in
theorem roends : mtab[137]? = some (yX12_ends, cX12_ends, 2, (some .int), 1) := rfl
set_option maxRecDepth 100000 in
theorem roassigned : mtab[138]? = some (yX12_assigned, cX12_assigned, 3, (some .int), 2) := rfl
set_option maxRecDepth 100000 in
theorem roargument : mtab[139]? = some (yX12_argument, cX12_argument, 4, (some .int), 2) := rfl
set_option maxRecDepth 100000 in
theorem roinput : mtab[140]? = some (yX12_input, cX12_input, 2, (some .int), 1) := rfl
set_option maxRecDepth 100000 in
theorem rodrain : mtab[141]? = some (yX12_drain, cX12_drain, 2, (some .int), 0) := rfl
set_option maxRecDepth 100000 in
theorem rolinks : mtab[142]? = some (yX12_links, cX12_links, 4, none, 0) := rfl
set_option maxRecDepth 100000 in
theorem ropop1 : mtab[143]? = some (yX12_pop1, cX12_pop1, 1, (some .long), 0) := rfl
set_option maxRecDepth 100000 in
theorem roput : mtab[144]? = some (yX12_put, cX12_put, 3, none, 1) := rfl
set_option maxRecDepth 100000 in
theorem rocount1 : mtab[145]? = some (yX12_count1, cX12_count1, 1, (some .boolean), 0) := rfl
set_option maxRecDepth 100000 in
theorem roslot : mtab[146]? = some (yX12_slot, cX12_slot, 2, (some .int), 1) := rfl
set_option maxRecDepth 100000 in
theorem roleave_ : mtab[147]? = some (yX12_leave_, cX12_leave_, 7, none, 3) := rfl
set_option maxRecDepth 100000 in
theorem roback : mtab[148]? = some (yX12_back, cX12_back, 5, none, 1) := rfl
set_option maxRecDepth 100000 in
theorem roraise : mtab[149]? = some (yX12_raise, cX12_raise, 5, none, 1) := rfl
set_option maxRecDepth 100000 in
theorem robegin : mtab[150]? = some (yX12_begin, cX12_begin, 3, (some .boolean), 2) := rfl
set_option maxRecDepth 100000 in
theorem rorun : mtab[151]? = some (yX12_run, cX12_run, 4, (some .int), 2) := rfl
set_option maxRecDepth 100000 in
theorem rowork : mtab[152]? = some (yX12_work, cX12_work, 16, none, 1) := rfl
set_option maxRecDepth 100000 in
theorem rooperate : mtab[153]? = some (yX12_operate, cX12_operate, 7, none, 4) := rfl
set_option maxRecDepth 100000 in
theorem rocall0 : mtab[154]? = some (yX12_call0, cX12_call0, 6, none, 1) := rfl
set_option maxRecDepth 100000 in
theorem ronext : mtab[155]? = some (yX12_next, cX12_next, 1, (some .long), 0) := rfl
set_option maxRecDepth 100000 in
theorem rotell : mtab[156]? = some (yX12_tell, cX12_tell, 3, none, 1) := rfl
set_option maxRecDepth 100000 in
theorem roworkStep : mtab[157]? = some (yX12_workStep, cX12_workStep, 7, none, 2) := rfl
set_option maxRecDepth 100000 in
theorem roover : mtab[158]? = some (yX12_over, cX12_over, 2, none, 0) := rfl
set_option maxRecDepth 100000 in
theorem rochoose : mtab[159]? = some (yX12_choose, cX12_choose, 5, none, 2) := rfl
set_option maxRecDepth 100000 in
theorem roran : mtab[160]? = some (yX12_ran, cX12_ran, 2, (some .long), 1) := rfl
theorem oi_m10 : Int32.ofInt (-10) = (-10) := rfl
theorem oi_m8 : Int32.ofInt (-8) = (-8) := rfl
theorem oi_m5 : Int32.ofInt (-5) = (-5) := rfl
theorem oi_m3 : Int32.ofInt (-3) = (-3) := rfl
theorem oi_m2 : Int32.ofInt (-2) = (-2) := rfl
theorem oi_m1 : Int32.ofInt (-1) = (-1) := rfl
theorem oi_0 : Int32.ofInt 0 = 0 := rfl
theorem oi_1 : Int32.ofInt 1 = 1 := rfl
theorem oi_2 : Int32.ofInt 2 = 2 := rfl
theorem oi_3 : Int32.ofInt 3 = 3 := rfl
theorem oi_4 : Int32.ofInt 4 = 4 := rfl
theorem oi_5 : Int32.ofInt 5 = 5 := rfl
theorem oi_6 : Int32.ofInt 6 = 6 := rfl
theorem oi_7 : Int32.ofInt 7 = 7 := rfl
theorem oi_8 : Int32.ofInt 8 = 8 := rfl
theorem oi_9 : Int32.ofInt 9 = 9 := rfl
theorem oi_10 : Int32.ofInt 10 = 10 := rfl
theorem oi_11 : Int32.ofInt 11 = 11 := rfl
theorem oi_12 : Int32.ofInt 12 = 12 := rfl
theorem oi_13 : Int32.ofInt 13 = 13 := rfl
theorem oi_14 : Int32.ofInt 14 = 14 := rfl
theorem oi_15 : Int32.ofInt 15 = 15 := rfl
theorem oi_16 : Int32.ofInt 16 = 16 := rfl
theorem oi_17 : Int32.ofInt 17 = 17 := rfl
theorem oi_18 : Int32.ofInt 18 = 18 := rfl
theorem oi_19 : Int32.ofInt 19 = 19 := rfl
theorem oi_20 : Int32.ofInt 20 = 20 := rfl
theorem oi_21 : Int32.ofInt 21 = 21 := rfl
theorem oi_22 : Int32.ofInt 22 = 22 := rfl
theorem oi_23 : Int32.ofInt 23 = 23 := rfl
theorem oi_24 : Int32.ofInt 24 = 24 := rfl
theorem oi_25 : Int32.ofInt 25 = 25 := rfl
theorem oi_26 : Int32.ofInt 26 = 26 := rfl
theorem oi_27 : Int32.ofInt 27 = 27 := rfl
theorem oi_28 : Int32.ofInt 28 = 28 := rfl
theorem oi_29 : Int32.ofInt 29 = 29 := rfl
theorem oi_30 : Int32.ofInt 30 = 30 := rfl
theorem oi_31 : Int32.ofInt 31 = 31 := rfl
theorem oi_32 : Int32.ofInt 32 = 32 := rfl
theorem oi_33 : Int32.ofInt 33 = 33 := rfl
theorem oi_34 : Int32.ofInt 34 = 34 := rfl
theorem oi_35 : Int32.ofInt 35 = 35 := rfl
theorem oi_36 : Int32.ofInt 36 = 36 := rfl
theorem oi_37 : Int32.ofInt 37 = 37 := rfl
theorem oi_38 : Int32.ofInt 38 = 38 := rfl
theorem oi_39 : Int32.ofInt 39 = 39 := rfl
theorem oi_40 : Int32.ofInt 40 = 40 := rfl
theorem oi_41 : Int32.ofInt 41 = 41 := rfl
theorem oi_42 : Int32.ofInt 42 = 42 := rfl
theorem oi_43 : Int32.ofInt 43 = 43 := rfl
theorem oi_44 : Int32.ofInt 44 = 44 := rfl
theorem oi_45 : Int32.ofInt 45 = 45 := rfl
theorem oi_46 : Int32.ofInt 46 = 46 := rfl
theorem oi_47 : Int32.ofInt 47 = 47 := rfl
theorem oi_48 : Int32.ofInt 48 = 48 := rfl
theorem oi_49 : Int32.ofInt 49 = 49 := rfl
theorem oi_50 : Int32.ofInt 50 = 50 := rfl
theorem oi_51 : Int32.ofInt 51 = 51 := rfl
theorem oi_52 : Int32.ofInt 52 = 52 := rfl
theorem oi_53 : Int32.ofInt 53 = 53 := rfl
theorem oi_54 : Int32.ofInt 54 = 54 := rfl
theorem oi_57 : Int32.ofInt 57 = 57 := rfl
theorem oi_58 : Int32.ofInt 58 = 58 := rfl
theorem oi_59 : Int32.ofInt 59 = 59 := rfl
theorem oi_60 : Int32.ofInt 60 = 60 := rfl
theorem oi_61 : Int32.ofInt 61 = 61 := rfl
theorem oi_62 : Int32.ofInt 62 = 62 := rfl
theorem oi_63 : Int32.ofInt 63 = 63 := rfl
theorem oi_65 : Int32.ofInt 65 = 65 := rfl
theorem oi_76 : Int32.ofInt 76 = 76 := rfl
theorem oi_90 : Int32.ofInt 90 = 90 := rfl
theorem oi_92 : Int32.ofInt 92 = 92 := rfl
theorem oi_94 : Int32.ofInt 94 = 94 := rfl
theorem oi_97 : Int32.ofInt 97 = 97 := rfl
theorem oi_100 : Int32.ofInt 100 = 100 := rfl
theorem oi_122 : Int32.ofInt 122 = 122 := rfl
theorem oi_123 : Int32.ofInt 123 = 123 := rfl
theorem oi_124 : Int32.ofInt 124 = 124 := rfl
theorem oi_125 : Int32.ofInt 125 = 125 := rfl
theorem oi_126 : Int32.ofInt 126 = 126 := rfl
theorem oi_127 : Int32.ofInt 127 = 127 := rfl
theorem oi_200 : Int32.ofInt 200 = 200 := rfl
theorem oi_255 : Int32.ofInt 255 = 255 := rfl
theorem oi_300 : Int32.ofInt 300 = 300 := rfl
theorem oi_301 : Int32.ofInt 301 = 301 := rfl
theorem oi_302 : Int32.ofInt 302 = 302 := rfl
theorem oi_303 : Int32.ofInt 303 = 303 := rfl
theorem oi_304 : Int32.ofInt 304 = 304 := rfl
theorem oi_305 : Int32.ofInt 305 = 305 := rfl
theorem oi_306 : Int32.ofInt 306 = 306 := rfl
theorem oi_307 : Int32.ofInt 307 = 307 := rfl
theorem oi_308 : Int32.ofInt 308 = 308 := rfl
theorem oi_309 : Int32.ofInt 309 = 309 := rfl
theorem oi_310 : Int32.ofInt 310 = 310 := rfl
theorem oi_400 : Int32.ofInt 400 = 400 := rfl
theorem oi_500 : Int32.ofInt 500 = 500 := rfl
theorem oi_1000 : Int32.ofInt 1000 = 1000 := rfl
theorem oi_2500 : Int32.ofInt 2500 = 2500 := rfl
theorem oi_2590 : Int32.ofInt 2590 = 2590 := rfl
theorem oi_20000 : Int32.ofInt 20000 = 20000 := rfl
set_option maxRecDepth 10000 in
theorem in_0 {j : Int32} (h0 : 0 ≤ j) (h1 : j < 2500) : vp_in j (ln 0) := in32 2500 rfl (by decide) h0 h1
set_option maxRecDepth 10000 in
theorem in_3 {j : Int32} (h0 : 0 ≤ j) (h1 : j < 2600) : vp_in j (ln 3) := in32 2600 rfl (by decide) h0 h1
set_option maxRecDepth 10000 in
theorem in_4 {j : Int32} (h0 : 0 ≤ j) (h1 : j < 2600) : vp_in j (ln 4) := in32 2600 rfl (by decide) h0 h1
set_option maxRecDepth 10000 in
theorem in_5 {j : Int32} (h0 : 0 ≤ j) (h1 : j < 2600) : vp_in j (ln 5) := in32 2600 rfl (by decide) h0 h1
set_option maxRecDepth 10000 in
theorem in_6 {j : Int32} (h0 : 0 ≤ j) (h1 : j < 2600) : vp_in j (ln 6) := in32 2600 rfl (by decide) h0 h1
set_option maxRecDepth 10000 in
theorem in_7 {j : Int32} (h0 : 0 ≤ j) (h1 : j < 2600) : vp_in j (ln 7) := in32 2600 rfl (by decide) h0 h1
set_option maxRecDepth 10000 in
theorem in_8 {j : Int32} (h0 : 0 ≤ j) (h1 : j < 2600) : vp_in j (ln 8) := in32 2600 rfl (by decide) h0 h1
set_option maxRecDepth 10000 in
theorem in_9 {j : Int32} (h0 : 0 ≤ j) (h1 : j < 2600) : vp_in j (ln 9) := in32 2600 rfl (by decide) h0 h1
set_option maxRecDepth 10000 in
theorem in_10 {j : Int32} (h0 : 0 ≤ j) (h1 : j < 2600) : vp_in j (ln 10) := in32 2600 rfl (by decide) h0 h1
set_option maxRecDepth 10000 in
theorem in_11 {j : Int32} (h0 : 0 ≤ j) (h1 : j < 2600) : vp_in j (ln 11) := in32 2600 rfl (by decide) h0 h1
set_option maxRecDepth 10000 in
theorem in_19 {j : Int32} (h0 : 0 ≤ j) (h1 : j < 4000) : vp_in j (ln 19) := in32 4000 rfl (by decide) h0 h1
set_option maxRecDepth 10000 in
theorem in_20 {j : Int32} (h0 : 0 ≤ j) (h1 : j < 4000) : vp_in j (ln 20) := in32 4000 rfl (by decide) h0 h1
set_option maxRecDepth 10000 in
theorem in_21 {j : Int32} (h0 : 0 ≤ j) (h1 : j < 4000) : vp_in j (ln 21) := in32 4000 rfl (by decide) h0 h1
set_option maxRecDepth 10000 in
theorem in_22 {j : Int32} (h0 : 0 ≤ j) (h1 : j < 4000) : vp_in j (ln 22) := in32 4000 rfl (by decide) h0 h1
set_option maxRecDepth 10000 in
theorem in_23 {j : Int32} (h0 : 0 ≤ j) (h1 : j < 4000) : vp_in j (ln 23) := in32 4000 rfl (by decide) h0 h1
set_option maxRecDepth 10000 in
theorem in_24 {j : Int32} (h0 : 0 ≤ j) (h1 : j < 4000) : vp_in j (ln 24) := in32 4000 rfl (by decide) h0 h1
set_option maxRecDepth 10000 in
theorem in_25 {j : Int32} (h0 : 0 ≤ j) (h1 : j < 600) : vp_in j (ln 25) := in32 600 rfl (by decide) h0 h1
set_option maxRecDepth 10000 in
theorem in_26 {j : Int32} (h0 : 0 ≤ j) (h1 : j < 600) : vp_in j (ln 26) := in32 600 rfl (by decide) h0 h1
set_option maxRecDepth 10000 in
theorem in_27 {j : Int32} (h0 : 0 ≤ j) (h1 : j < 600) : vp_in j (ln 27) := in32 600 rfl (by decide) h0 h1
set_option maxRecDepth 10000 in
theorem in_28 {j : Int32} (h0 : 0 ≤ j) (h1 : j < 600) : vp_in j (ln 28) := in32 600 rfl (by decide) h0 h1
set_option maxRecDepth 10000 in
theorem in_30 {j : Int32} (h0 : 0 ≤ j) (h1 : j < 600) : vp_in j (ln 30) := in32 600 rfl (by decide) h0 h1
set_option maxRecDepth 10000 in
theorem in_37 {j : Int32} (h0 : 0 ≤ j) (h1 : j < 16) : vp_in j (ln 37) := in32 16 rfl (by decide) h0 h1
set_option maxRecDepth 10000 in
theorem in_38 {j : Int32} (h0 : 0 ≤ j) (h1 : j < 16) : vp_in j (ln 38) := in32 16 rfl (by decide) h0 h1
set_option maxRecDepth 10000 in
theorem in_39 {j : Int32} (h0 : 0 ≤ j) (h1 : j < 16) : vp_in j (ln 39) := in32 16 rfl (by decide) h0 h1
set_option maxRecDepth 10000 in
theorem in_40 {j : Int32} (h0 : 0 ≤ j) (h1 : j < 16) : vp_in j (ln 40) := in32 16 rfl (by decide) h0 h1
set_option maxRecDepth 10000 in
theorem in_41 {j : Int32} (h0 : 0 ≤ j) (h1 : j < 16) : vp_in j (ln 41) := in32 16 rfl (by decide) h0 h1
set_option maxRecDepth 10000 in
theorem in_43 {j : Int32} (h0 : 0 ≤ j) (h1 : j < 64) : vp_in j (ln 43) := in32 64 rfl (by decide) h0 h1
set_option maxRecDepth 10000 in
theorem in_44 {j : Int32} (h0 : 0 ≤ j) (h1 : j < 64) : vp_in j (ln 44) := in32 64 rfl (by decide) h0 h1
set_option maxRecDepth 10000 in
theorem in_45 {j : Int32} (h0 : 0 ≤ j) (h1 : j < 64) : vp_in j (ln 45) := in32 64 rfl (by decide) h0 h1
set_option maxRecDepth 10000 in
theorem in_46 {j : Int32} (h0 : 0 ≤ j) (h1 : j < 64) : vp_in j (ln 46) := in32 64 rfl (by decide) h0 h1
set_option maxRecDepth 10000 in
theorem in_47 {j : Int32} (h0 : 0 ≤ j) (h1 : j < 64) : vp_in j (ln 47) := in32 64 rfl (by decide) h0 h1
set_option maxRecDepth 10000 in
theorem in_48 {j : Int32} (h0 : 0 ≤ j) (h1 : j < 64) : vp_in j (ln 48) := in32 64 rfl (by decide) h0 h1
set_option maxRecDepth 10000 in
theorem in_50 {j : Int32} (h0 : 0 ≤ j) (h1 : j < 600) : vp_in j (ln 50) := in32 600 rfl (by decide) h0 h1
set_option maxRecDepth 10000 in
theorem in_51 {j : Int32} (h0 : 0 ≤ j) (h1 : j < 600) : vp_in j (ln 51) := in32 600 rfl (by decide) h0 h1
set_option maxRecDepth 10000 in
theorem in_52 {j : Int32} (h0 : 0 ≤ j) (h1 : j < 600) : vp_in j (ln 52) := in32 600 rfl (by decide) h0 h1
set_option maxRecDepth 10000 in
theorem in_53 {j : Int32} (h0 : 0 ≤ j) (h1 : j < 600) : vp_in j (ln 53) := in32 600 rfl (by decide) h0 h1
set_option maxRecDepth 10000 in
theorem in_54 {j : Int32} (h0 : 0 ≤ j) (h1 : j < 600) : vp_in j (ln 54) := in32 600 rfl (by decide) h0 h1
set_option maxRecDepth 10000 in
theorem in_55 {j : Int32} (h0 : 0 ≤ j) (h1 : j < 600) : vp_in j (ln 55) := in32 600 rfl (by decide) h0 h1
set_option maxRecDepth 10000 in
theorem in_56 {j : Int32} (h0 : 0 ≤ j) (h1 : j < 600) : vp_in j (ln 56) := in32 600 rfl (by decide) h0 h1
set_option maxRecDepth 10000 in
theorem in_57 {j : Int32} (h0 : 0 ≤ j) (h1 : j < 600) : vp_in j (ln 57) := in32 600 rfl (by decide) h0 h1
set_option maxRecDepth 10000 in
theorem in_58 {j : Int32} (h0 : 0 ≤ j) (h1 : j < 600) : vp_in j (ln 58) := in32 600 rfl (by decide) h0 h1
set_option maxRecDepth 10000 in
theorem in_59 {j : Int32} (h0 : 0 ≤ j) (h1 : j < 600) : vp_in j (ln 59) := in32 600 rfl (by decide) h0 h1
set_option maxRecDepth 10000 in
theorem in_60 {j : Int32} (h0 : 0 ≤ j) (h1 : j < 600) : vp_in j (ln 60) := in32 600 rfl (by decide) h0 h1
set_option maxRecDepth 10000 in
theorem in_61 {j : Int32} (h0 : 0 ≤ j) (h1 : j < 600) : vp_in j (ln 61) := in32 600 rfl (by decide) h0 h1
set_option maxRecDepth 10000 in
theorem in_63 {j : Int32} (h0 : 0 ≤ j) (h1 : j < 80) : vp_in j (ln 63) := in32 80 rfl (by decide) h0 h1
set_option maxRecDepth 10000 in
theorem in_64 {j : Int32} (h0 : 0 ≤ j) (h1 : j < 80) : vp_in j (ln 64) := in32 80 rfl (by decide) h0 h1
set_option maxRecDepth 10000 in
theorem in_65 {j : Int32} (h0 : 0 ≤ j) (h1 : j < 80) : vp_in j (ln 65) := in32 80 rfl (by decide) h0 h1
set_option maxRecDepth 10000 in
theorem in_70 {j : Int32} (h0 : 0 ≤ j) (h1 : j < 700) : vp_in j (ln 70) := in32 700 rfl (by decide) h0 h1
set_option maxRecDepth 10000 in
theorem in_71 {j : Int32} (h0 : 0 ≤ j) (h1 : j < 700) : vp_in j (ln 71) := in32 700 rfl (by decide) h0 h1
set_option maxRecDepth 10000 in
theorem in_72 {j : Int32} (h0 : 0 ≤ j) (h1 : j < 700) : vp_in j (ln 72) := in32 700 rfl (by decide) h0 h1
set_option maxRecDepth 10000 in
theorem in_73 {j : Int32} (h0 : 0 ≤ j) (h1 : j < 700) : vp_in j (ln 73) := in32 700 rfl (by decide) h0 h1
set_option maxRecDepth 10000 in
theorem in_75 {j : Int32} (h0 : 0 ≤ j) (h1 : j < 2000) : vp_in j (ln 75) := in32 2000 rfl (by decide) h0 h1
set_option maxRecDepth 10000 in
theorem in_76 {j : Int32} (h0 : 0 ≤ j) (h1 : j < 2000) : vp_in j (ln 76) := in32 2000 rfl (by decide) h0 h1
set_option maxRecDepth 10000 in
theorem in_77 {j : Int32} (h0 : 0 ≤ j) (h1 : j < 2000) : vp_in j (ln 77) := in32 2000 rfl (by decide) h0 h1
set_option maxRecDepth 10000 in
theorem in_78 {j : Int32} (h0 : 0 ≤ j) (h1 : j < 2000) : vp_in j (ln 78) := in32 2000 rfl (by decide) h0 h1
set_option maxRecDepth 10000 in
theorem in_79 {j : Int32} (h0 : 0 ≤ j) (h1 : j < 2000) : vp_in j (ln 79) := in32 2000 rfl (by decide) h0 h1
set_option maxRecDepth 10000 in
theorem in_80 {j : Int32} (h0 : 0 ≤ j) (h1 : j < 2600) : vp_in j (ln 80) := in32 2600 rfl (by decide) h0 h1
set_option maxRecDepth 10000 in
theorem in_81 {j : Int32} (h0 : 0 ≤ j) (h1 : j < 4000) : vp_in j (ln 81) := in32 4000 rfl (by decide) h0 h1
set_option maxRecDepth 10000 in
theorem in_82 {j : Int32} (h0 : 0 ≤ j) (h1 : j < 4000) : vp_in j (ln 82) := in32 4000 rfl (by decide) h0 h1
set_option maxRecDepth 10000 in
theorem in_83 {j : Int32} (h0 : 0 ≤ j) (h1 : j < 4000) : vp_in j (ln 83) := in32 4000 rfl (by decide) h0 h1
set_option maxRecDepth 10000 in
theorem in_84 {j : Int32} (h0 : 0 ≤ j) (h1 : j < 4000) : vp_in j (ln 84) := in32 4000 rfl (by decide) h0 h1
set_option maxRecDepth 10000 in
theorem in_85 {j : Int32} (h0 : 0 ≤ j) (h1 : j < 4000) : vp_in j (ln 85) := in32 4000 rfl (by decide) h0 h1
set_option maxRecDepth 10000 in
theorem in_86 {j : Int32} (h0 : 0 ≤ j) (h1 : j < 64) : vp_in j (ln 86) := in32 64 rfl (by decide) h0 h1
set_option maxRecDepth 10000 in
theorem in_87 {j : Int32} (h0 : 0 ≤ j) (h1 : j < 64) : vp_in j (ln 87) := in32 64 rfl (by decide) h0 h1
set_option maxRecDepth 10000 in
theorem in_88 {j : Int32} (h0 : 0 ≤ j) (h1 : j < 600) : vp_in j (ln 88) := in32 600 rfl (by decide) h0 h1
set_option maxRecDepth 10000 in
theorem in_90 {j : Int32} (h0 : 0 ≤ j) (h1 : j < 80) : vp_in j (ln 90) := in32 80 rfl (by decide) h0 h1
set_option maxRecDepth 10000 in
theorem in_95 {j : Int32} (h0 : 0 ≤ j) (h1 : j < 600) : vp_in j (ln 95) := in32 600 rfl (by decide) h0 h1
set_option maxRecDepth 10000 in
theorem in_96 {j : Int32} (h0 : 0 ≤ j) (h1 : j < 600) : vp_in j (ln 96) := in32 600 rfl (by decide) h0 h1
set_option maxRecDepth 10000 in
theorem in_97 {j : Int32} (h0 : 0 ≤ j) (h1 : j < 600) : vp_in j (ln 97) := in32 600 rfl (by decide) h0 h1
set_option maxRecDepth 10000 in
theorem in_98 {j : Int32} (h0 : 0 ≤ j) (h1 : j < 600) : vp_in j (ln 98) := in32 600 rfl (by decide) h0 h1
set_option maxRecDepth 10000 in
theorem in_99 {j : Int32} (h0 : 0 ≤ j) (h1 : j < 600) : vp_in j (ln 99) := in32 600 rfl (by decide) h0 h1
set_option maxRecDepth 10000 in
theorem in_101 {j : Int32} (h0 : 0 ≤ j) (h1 : j < 300) : vp_in j (ln 101) := in32 300 rfl (by decide) h0 h1
set_option maxRecDepth 10000 in
theorem in_102 {j : Int32} (h0 : 0 ≤ j) (h1 : j < 300) : vp_in j (ln 102) := in32 300 rfl (by decide) h0 h1
set_option maxRecDepth 10000 in
theorem in_104 {j : Int32} (h0 : 0 ≤ j) (h1 : j < 600) : vp_in j (ln 104) := in32 600 rfl (by decide) h0 h1
set_option maxRecDepth 10000 in
theorem in_105 {j : Int32} (h0 : 0 ≤ j) (h1 : j < 600) : vp_in j (ln 105) := in32 600 rfl (by decide) h0 h1
set_option maxRecDepth 10000 in
theorem in_106 {j : Int32} (h0 : 0 ≤ j) (h1 : j < 600) : vp_in j (ln 106) := in32 600 rfl (by decide) h0 h1
set_option maxRecDepth 10000 in
theorem in_107 {j : Int32} (h0 : 0 ≤ j) (h1 : j < 600) : vp_in j (ln 107) := in32 600 rfl (by decide) h0 h1
set_option maxRecDepth 10000 in
theorem in_108 {j : Int32} (h0 : 0 ≤ j) (h1 : j < 600) : vp_in j (ln 108) := in32 600 rfl (by decide) h0 h1
set_option maxRecDepth 10000 in
theorem in_109 {j : Int32} (h0 : 0 ≤ j) (h1 : j < 2600) : vp_in j (ln 109) := in32 2600 rfl (by decide) h0 h1
set_option maxRecDepth 10000 in
theorem in_110 {j : Int32} (h0 : 0 ≤ j) (h1 : j < 2600) : vp_in j (ln 110) := in32 2600 rfl (by decide) h0 h1
set_option maxRecDepth 10000 in
theorem in_111 {j : Int32} (h0 : 0 ≤ j) (h1 : j < 2600) : vp_in j (ln 111) := in32 2600 rfl (by decide) h0 h1
set_option maxRecDepth 10000 in
theorem in_118 {j : Int32} (h0 : 0 ≤ j) (h1 : j < 2500) : vp_in j (ln 118) := in32 2500 rfl (by decide) h0 h1
set_option maxRecDepth 10000 in
theorem in_122 {j : Int32} (h0 : 0 ≤ j) (h1 : j < 40) : vp_in j (ln 122) := in32 40 rfl (by decide) h0 h1
set_option maxRecDepth 10000 in
theorem in_124 {j : Int32} (h0 : 0 ≤ j) (h1 : j < 6) : vp_in j (ln 124) := in32 6 rfl (by decide) h0 h1
set_option maxRecDepth 10000 in
theorem in_125 {j : Int32} (h0 : 0 ≤ j) (h1 : j < 4000) : vp_in j (ln 125) := in32 4000 rfl (by decide) h0 h1
set_option maxRecDepth 10000 in
theorem in_126 {j : Int32} (h0 : 0 ≤ j) (h1 : j < 300) : vp_in j (ln 126) := in32 300 rfl (by decide) h0 h1
set_option maxRecDepth 10000 in
theorem in_127 {j : Int32} (h0 : 0 ≤ j) (h1 : j < 8000) : vp_in j (ln 127) := in32 8000 rfl (by decide) h0 h1
set_option maxRecDepth 10000 in
theorem in_130 {j : Int32} (h0 : 0 ≤ j) (h1 : j < 1860) : vp_in j (ln 130) := in32 1860 rfl (by decide) h0 h1
set_option maxRecDepth 10000 in
theorem in_131 {j : Int32} (h0 : 0 ≤ j) (h1 : j < 31) : vp_in j (ln 131) := in32 31 rfl (by decide) h0 h1
set_option maxRecDepth 10000 in
theorem in_132 {j : Int32} (h0 : 0 ≤ j) (h1 : j < 31) : vp_in j (ln 132) := in32 31 rfl (by decide) h0 h1
set_option maxRecDepth 10000 in
theorem in_134 {j : Int32} (h0 : 0 ≤ j) (h1 : j < 2000) : vp_in j (ln 134) := in32 2000 rfl (by decide) h0 h1
set_option maxRecDepth 10000 in
theorem in_135 {j : Int32} (h0 : 0 ≤ j) (h1 : j < 2000) : vp_in j (ln 135) := in32 2000 rfl (by decide) h0 h1
set_option maxRecDepth 10000 in
theorem in_136 {j : Int32} (h0 : 0 ≤ j) (h1 : j < 2000) : vp_in j (ln 136) := in32 2000 rfl (by decide) h0 h1
set_option maxRecDepth 10000 in
theorem in_137 {j : Int32} (h0 : 0 ≤ j) (h1 : j < 2000) : vp_in j (ln 137) := in32 2000 rfl (by decide) h0 h1
set_option maxRecDepth 10000 in
theorem in_138 {j : Int32} (h0 : 0 ≤ j) (h1 : j < 2000) : vp_in j (ln 138) := in32 2000 rfl (by decide) h0 h1
set_option maxRecDepth 10000 in
theorem in_139 {j : Int32} (h0 : 0 ≤ j) (h1 : j < 2000) : vp_in j (ln 139) := in32 2000 rfl (by decide) h0 h1
set_option maxRecDepth 10000 in
theorem in_140 {j : Int32} (h0 : 0 ≤ j) (h1 : j < 2000) : vp_in j (ln 140) := in32 2000 rfl (by decide) h0 h1
set_option maxRecDepth 10000 in
theorem in_149 {j : Int32} (h0 : 0 ≤ j) (h1 : j < 200) : vp_in j (ln 149) := in32 200 rfl (by decide) h0 h1
/-! what a run does, as a relation over the reference's states: for two readings of one text -/
def evT : List (Nat × RB) := [(3, Bat), (4, BisLetter), (5, BisDigit), (6, Blexer), (7, Bword), (8, BwordOf), (9, Bnumber), (10, Bcharacter), (11, Bsign), (12, Bwrong), (13, Bcant), (14, BisSign), (15, BisWord), (16, BisSignAt), (17, Btake), (18, Bwant), (19, Benter), (20, Bemit), (21, BemitExp), (22, Bstrength), (23, BisType), (24, BisSetAt), (25, Bpush), (26, Bwhole), (27, Bexpression), (28, Bwait), (29, Boperand), (30, Bnamed), (31, BcloseCall), (32, Breduce), (33, Bcomplete), (34, Bbehind), (35, Bthing), (36, Bopen), (37, Bparse), (38, Bmethod), (39, Bparam), (40, Bvariable), (41, Bscope), (42, Bleave), (43, BisRow), (44, Bpiece), (45, Bgrouped), (46, BisTold), (47, Btold), (48, Bdeclaration), (49, Bstatement), (50, Bplain), (51, Bpop), (52, Bcondition), (53, BifOf), (54, BwhileOf), (55, BdoOf), (56, Bexps), (57, BforOf), (58, BswitchOf), (59, Blabel), (60, BcloseSwitch), (61, Bclosed), (62, Bjump), (63, BsameName), (64, Bnamed_), (65, Bgives), (66, BtryOf), (67, BcloseRow), (68, BcloseTry), (69, Bfinished), (70, Berr), (71, Bfind), (72, BisNumber), (73, Bwidens), (74, BholdsValue), (75, Bfits), (76, Bcast), (77, Blie), (78, Bnone), (79, BisBad), (80, Bneed), (81, Bwide), (82, BjudgeAll), (83, BtypeOfParam), (84, BparamsOf), (85, BresultOf), (86, BisNamed), (87, BmethodsTold), (88, BjudgeExp), (89, Bliteral), (90, Bstep), (91, Bunary), (92, Bcasts), (93, BisShift), (94, BisBits), (95, Bbinary), (96, Bpair), (97, Breckon), (98, Bchoice), (99, BisHeld), (100, Bassign), (101, Btakes), (102, BisCloser), (103, BisMethod), (104, Bcall), (105, BjudgeStep), (106, Bkeep), (107, Bdeclared), (108, Bcased), (109, Breturns), (110, BlateErr), (111, Bnow), (112, Bbe), (113, Bflow), (114, Bstart), (115, Bvalue), (116, Bsided), (117, BflowExp), (118, BfindAt), (119, Bcome), (120, Bdead), (121, BflowStep), (122, Bended), (125, BisGood), (126, Bjudge), (127, Btokens), (129, BisToken), (133, Bmeans), (134, BexpAt), (135, Btype), (136, Bconstant), (137, Bends), (138, Bassigned)]
def evf (l : List (Nat × RB)) (μ : Nat) : Option RB := match l with
  | [] => none
  | q :: r => match Nat.beq q.1 μ with
    | true => some q.2
    | false => evf r μ
def evl (μ : Nat) : Option RB := evf evT μ
def rsx (x : Int) (l : List (Int × Nat)) (d : Nat) (t : Nat) : Prop := match l with
  | [] => t = d
  | q :: r => (x = q.1 ∧ t = q.2) ∨ (¬ x = q.1 ∧ rsx x r d t)
def rxe (x : RI) (pc : Nat) (ls : RL) (st : List Value) (σ : RS) (N : RK) (J : Nat → List Value → Prop) (R : Option Value → Prop) (C : Nat → List Value → List Value → Prop) : Prop :=
  match x.1 with
  | .iconst n => N (pc + 1) ls (.int (Int32.ofInt n) :: st) σ
  | .bipush n => N (pc + 2) ls (.int (Int32.ofInt n) :: st) σ
  | .sipush n => N (pc + 3) ls (.int (Int32.ofInt n) :: st) σ
  | .lconst n => N (pc + 1) ls (.long (Int64.ofNat (n : Nat)) :: st) σ
  | .ldc2_w _ => N (pc + 3) ls (.long (Int64.ofInt x.2.2.1) :: st) σ
  | .iload_n _ => ∃ v, (x.2.2.2.1, Value.int v) ∈ ls ∧ N (pc + 1) ls (.int v :: st) σ
  | .iload n => ∃ v, (n, Value.int v) ∈ ls ∧ N (pc + 2) ls (.int v :: st) σ
  | .lload_n _ => ∃ v, (x.2.2.2.1, Value.long v) ∈ ls ∧ N (pc + 1) ls (.long v :: st) σ
  | .aload_n _ => ∃ v, (x.2.2.2.1, Value.ref v) ∈ ls ∧ N (pc + 1) ls (.ref v :: st) σ
  | .istore_n _ => match st with
    | .int v :: r => N (pc + 1) (rs1 ls x.2.2.2.1 (.int v)) r σ
    | _ => False
  | .istore n => match st with
    | .int v :: r => N (pc + 2) (rs1 ls n (.int v)) r σ
    | _ => False
  | .lstore_n _ => match st with
    | .long v :: r => N (pc + 1) (rs2 ls x.2.2.2.1 (.long v)) r σ
    | _ => False
  | .iinc n d => ∃ v, (n, Value.int v) ∈ ls ∧ N (pc + 3) (rs1 ls n (.int (v + Int32.ofInt d))) st σ
  | .iadd => match st with
    | .int y :: .int x :: r => N (pc + 1) ls (.int (x + y) :: r) σ
    | _ => False
  | .isub => match st with
    | .int y :: .int x :: r => N (pc + 1) ls (.int (x - y) :: r) σ
    | _ => False
  | .imul => match st with
    | .int y :: .int x :: r => N (pc + 1) ls (.int (x * y) :: r) σ
    | _ => False
  | .ior => match st with
    | .int y :: .int x :: r => N (pc + 1) ls (.int (x ||| y) :: r) σ
    | _ => False
  | .ishl => match st with
    | .int y :: .int x :: r => N (pc + 1) ls (.int (x <<< (y &&& 31)) :: r) σ
    | _ => False
  | .ladd => match st with
    | .long y :: .long x :: r => N (pc + 1) ls (.long (x + y) :: r) σ
    | _ => False
  | .lmul => match st with
    | .long y :: .long x :: r => N (pc + 1) ls (.long (x * y) :: r) σ
    | _ => False
  | .lor => match st with
    | .long y :: .long x :: r => N (pc + 1) ls (.long (x ||| y) :: r) σ
    | _ => False
  | .lshl => match st with
    | .int y :: .long x :: r => N (pc + 1) ls (.long (x <<< (y.toInt64 &&& 63)) :: r) σ
    | _ => False
  | .iand => match st with
    | .int y :: .int x :: r => N (pc + 1) ls (.int (x &&& y) :: r) σ
    | _ => False
  | .ishr => match st with
    | .int y :: .int x :: r => N (pc + 1) ls (.int (x >>> (y &&& 31)) :: r) σ
    | _ => False
  | .iushr => match st with
    | .int y :: .int x :: r => N (pc + 1) ls (.int ((x.toUInt32 >>> (y.toUInt32 &&& Int32.toUInt32 31)).toInt32) :: r) σ
    | _ => False
  | .lsub => match st with
    | .long y :: .long x :: r => N (pc + 1) ls (.long (x - y) :: r) σ
    | _ => False
  | .land => match st with
    | .long y :: .long x :: r => N (pc + 1) ls (.long (x &&& y) :: r) σ
    | _ => False
  | .lxor => match st with
    | .long y :: .long x :: r => N (pc + 1) ls (.long (x ^^^ y) :: r) σ
    | _ => False
  | .lneg => match st with
    | .long x :: r => N (pc + 1) ls (.long (-x) :: r) σ
    | _ => False
  | .lshr => match st with
    | .int y :: .long x :: r => N (pc + 1) ls (.long (x >>> (y.toInt64 &&& 63)) :: r) σ
    | _ => False
  | .lushr => match st with
    | .int y :: .long x :: r => N (pc + 1) ls (.long ((x.toUInt64 >>> (y.toInt64.toUInt64 &&& Int64.toUInt64 63)).toInt64) :: r) σ
    | _ => False
  | .l2i => match st with
    | .long x :: r => N (pc + 1) ls (.int x.toInt32 :: r) σ
    | _ => False
  | .i2b => match st with
    | .int x :: r => N (pc + 1) ls (.int x.toInt8.toInt32 :: r) σ
    | _ => False
  | .i2c => match st with
    | .int x :: r => N (pc + 1) ls (.int (x.toUInt32 % 65536).toInt32 :: r) σ
    | _ => False
  | .ldiv => match st with
    | .long y :: .long x :: r => ¬ y = 0 ∧ N (pc + 1) ls (.long (x / y) :: r) σ
    | _ => False
  | .lrem => match st with
    | .long y :: .long x :: r => ¬ y = 0 ∧ N (pc + 1) ls (.long (x - x / y * y) :: r) σ
    | _ => False
  | .lload n => ∃ v, (n, Value.long v) ∈ ls ∧ N (pc + 2) ls (.long v :: st) σ
  | .lstore n => match st with
    | .long v :: r => N (pc + 2) (rs2 ls n (.long v)) r σ
    | _ => False
  | .lreturn => match st with
    | [.long v] => R (some (.long v))
    | _ => False
  | .i2l => match st with
    | .int x :: r => N (pc + 1) ls (.long x.toInt64 :: r) σ
    | _ => False
  | .lcmp => match st with
    | .long y :: .long x :: r => N (pc + 1) ls (.int (lg_cmp x y) :: r) σ
    | _ => False
  | .dup => match st with
    | .int x :: r => N (pc + 1) ls (.int x :: .int x :: r) σ
    | .ref x :: r => N (pc + 1) ls (.ref x :: .ref x :: r) σ
    | _ => False
  | .dup2 => match st with
    | .int y :: .ref x :: r => N (pc + 1) ls (.int y :: .ref x :: .int y :: .ref x :: r) σ
    | _ => False
  | .pop => match st with
    | .int _ :: r => N (pc + 1) ls r σ
    | _ => False
  | .ifCond c _ => match st with
    | .int v :: r => (rcd c v 0 ∧ J x.2.2.2.1 r) ∨ (rno c v 0 ∧ N (pc + 3) ls r σ)
    | _ => False
  | .if_icmp c _ => match st with
    | .int y :: .int v :: r => (rcd c v y ∧ J x.2.2.2.1 r) ∨ (rno c v y ∧ N (pc + 3) ls r σ)
    | _ => False
  | .goto _ => J x.2.2.2.1 st
  | .tableswitch _ _ _ _ => match st with
    | .int v :: r => ∃ t, rsx v.toInt x.2.2.2.2 x.2.2.2.1 t ∧ J t r
    | _ => False
  | .lookupswitch _ _ => match st with
    | .int v :: r => ∃ t, rsx v.toInt x.2.2.2.2 x.2.2.2.1 t ∧ J t r
    | _ => False
  | .ireturn => match st with
    | [.int v] => R (some (.int v))
    | _ => False
  | .return_ => match st with
    | [] => R none
    | _ => False
  | .getfield _ => match st with
    | .ref _ :: r => (match Nat.beq x.2.2.1.toNat 0 with
      | true => N (pc + 3) ls (.int (gI σ x.2.2.2.1) :: r) σ
      | false => match Nat.beq x.2.2.1.toNat 1 with
        | true => N (pc + 3) ls (.int (gI σ x.2.2.2.1) :: r) σ
        | false => match Nat.beq x.2.2.1.toNat 2 with
          | true => N (pc + 3) ls (.long (gL σ x.2.2.2.1) :: r) σ
          | false => N (pc + 3) ls (.ref x.2.2.2.1 :: r) σ)
    | _ => False
  | .putfield _ => match st with
    | .int v :: .ref _ :: r => N (pc + 3) ls r (sI σ x.2.2.2.1 v)
    | .long v :: .ref _ :: r => N (pc + 3) ls r (sL σ x.2.2.2.1 v)
    | _ => False
  | .iaload => match st with
    | .int j :: .ref n :: r => vp_in j (ln n) ∧ N (pc + 1) ls (.int (aI σ n j.toNatClampNeg) :: r) σ
    | _ => False
  | .baload => match st with
    | .int j :: .ref n :: r => vp_in j (ln n) ∧ N (pc + 1) ls (.int (aI σ n j.toNatClampNeg) :: r) σ
    | _ => False
  | .laload => match st with
    | .int j :: .ref n :: r => vp_in j (ln n) ∧ N (pc + 1) ls (.long (aL σ n j.toNatClampNeg) :: r) σ
    | _ => False
  | .iastore => match st with
    | .int v :: .int j :: .ref n :: r => vp_in j (ln n) ∧ N (pc + 1) ls r (sA σ n (upd (aI σ n) j.toNatClampNeg v))
    | _ => False
  | .bastore => match st with
    | .int v :: .int j :: .ref n :: r => vp_in j (ln n) ∧ N (pc + 1) ls r (sA σ n (upd (aI σ n) j.toNatClampNeg v))
    | _ => False
  | .lastore => match st with
    | .long v :: .int j :: .ref n :: r => vp_in j (ln n) ∧ N (pc + 1) ls r (sM σ n (vp_updL (aL σ n) j.toNatClampNeg v))
    | _ => False
  | .invokevirtual _ => match st.drop x.2.2.1.toNat with
    | .ref _ :: r => C x.2.2.2.1 (st.take x.2.2.1.toNat).reverse r
    | _ => False
  | _ => False
/-- the instructions that are told so -/
def evo (x : RI) : Bool := match x.1 with
  | .iconst _ => true | .bipush _ => true | .sipush _ => true | .lconst _ => true | .ldc2_w _ => true
  | .iload_n _ => true | .iload _ => true | .lload_n _ => true | .aload_n _ => true | .istore_n _ => true | .istore _ => true | .lstore_n _ => true
  | .iinc _ _ => true | .iadd => true | .isub => true | .imul => true | .ior => true | .ishl => true | .ladd => true | .lmul => true | .lor => true | .lshl => true
  | .iand => true | .ishr => true | .iushr => true | .lsub => true | .land => true | .lxor => true | .lneg => true | .lshr => true | .lushr => true | .l2i => true | .i2b => true | .i2c => true | .ldiv => true | .lrem => true | .lload _ => true | .lstore _ => true | .lreturn => true
  | .i2l => true | .lcmp => true | .dup => true | .dup2 => true | .pop => true | .ifCond _ _ => true | .if_icmp _ _ => true | .goto _ => true
  | .tableswitch _ _ _ _ => true | .lookupswitch _ _ => true | .ireturn => true | .return_ => true | .getfield _ => true | .putfield _ => true
  | .iaload => true | .baload => true | .laload => true | .iastore => true | .bastore => true | .lastore => true | .invokevirtual _ => true
  | _ => false
def evs (bs : RB) : Bool := bs.all (fun b => b.2.all evo)
def Ev : Nat → Nat → List RI → Nat → RL → List Value → RS → Option Value → RS → Prop
  | 0, _, _, _, _, _, _, _, _ => False
  | n + 1, μ, [], pc, ls, st, σ, w, τ => ∃ bs is, evl μ = some bs ∧ rfd bs pc = some is ∧ Ev n μ is pc ls st σ w τ
  | n + 1, μ, x :: is, pc, ls, st, σ, w, τ => rxe x pc ls st σ (fun pc' ls' st' σ' => Ev n μ is pc' ls' st' σ' w τ) (fun t st' => Ev n μ [] t ls st' σ w τ) (fun w' => w' = w ∧ σ = τ) (fun μ' As st' => ∃ w' σ', Ev n μ' [] 0 (lv_args 0 (.ref 1000 :: As)) [] σ w' σ' ∧ Ev n μ is (pc + 3) ls (w'.toList ++ st') σ' w τ)
def EvM (μ : Nat) (As : List Value) (σ : RS) (w : Option Value) (τ : RS) : Prop := ∃ n, Ev n μ [] 0 (lv_args 0 (.ref 1000 :: As)) [] σ w τ
theorem rsw_x {x : Int} {l : List (Int × Nat)} {d : Nat} {K K' : Nat → Prop} (h : rsw x l d K) (hk : ∀ t, rsx x l d t → K t → K' t) : rsw x l d K' := by sorry
/-- what holds at an instruction's outcomes alone counts -/
theorem rst_x {ct ct' : RC} {K K' : RK} {Z Z' : Option Value → RS → Prop} {x : RI} {pc : Nat} {ls : RL} {st : List Value} {σ : RS} {k k' : RK} {E : Option Value → RS → Prop} {N : Option Value → RS → RK} {J : Option Value → RS → Nat → List Value → Prop} (he : evo x = true)
    (hct : ∀ μ P Q, rct ct μ = some (P, Q) → rct ct' μ = some (P, fun As σ w τ => Q As σ w τ ∧ EvM μ As σ w τ))
    (hE : ∀ w τ, rxe x pc ls st σ (N w τ) (J w τ) (fun w' => w' = w ∧ σ = τ) (fun μ' As st' => ∃ w' σ', EvM μ' As σ w' σ' ∧ N w τ (pc + 3) ls (w'.toList ++ st') σ') → E w τ)
    (hn : ∀ pc' ls' st' σ', k pc' ls' st' σ' → (∀ w τ, N w τ pc' ls' st' σ' → E w τ) → k' pc' ls' st' σ')
    (hj : ∀ t st', K t ls st' σ → (∀ w τ, J w τ t st' → E w τ) → K' t ls st' σ)
    (hr : ∀ w, Z w σ → E w σ → Z' w σ)
    (h : rst ct K Z x pc ls st σ k) : rst ct' K' Z' x pc ls st σ k' := by sorry
theorem rxe_mono {x : RI} {pc : Nat} {ls : RL} {st : List Value} {σ : RS} {N N' : RK} {J J' : Nat → List Value → Prop} {R : Option Value → Prop} {C C' : Nat → List Value → List Value → Prop} (hN : ∀ pc ls st σ, N pc ls st σ → N' pc ls st σ) (hJ : ∀ t st, J t st → J' t st) (hC : ∀ μ As st, C μ As st → C' μ As st) (h : rxe x pc ls st σ N J R C) : rxe x pc ls st σ N' J' R C' := by sorry
theorem Ev.up1 : ∀ (n μ : Nat) (is : List RI) (pc : Nat) (ls : RL) (st : List Value) (σ : RS) (w : Option Value) (τ : RS), Ev n μ is pc ls st σ w τ → Ev (n + 1) μ is pc ls st σ w τ := by sorry
theorem Ev.up {n m μ : Nat} {is : List RI} {pc : Nat} {ls : RL} {st : List Value} {σ : RS} {w : Option Value} {τ : RS} (hm : n ≤ m) (h : Ev n μ is pc ls st σ w τ) : Ev m μ is pc ls st σ w τ := by sorry
/-- the steps' number comes out -/
theorem rxe_ex {x : RI} {pc : Nat} {ls : RL} {st : List Value} {σ : RS} {N : Nat → RK} {J : Nat → Nat → List Value → Prop} {R : Option Value → Prop} {C : Nat → Nat → List Value → List Value → Prop} (h : rxe x pc ls st σ (fun pc ls st σ => ∃ n, N n pc ls st σ) (fun t st => ∃ n, J n t st) R (fun μ As st => ∃ n, C n μ As st)) : ∃ n, rxe x pc ls st σ (N n) (J n) R (C n) := by sorry
/-- any number of steps -/
def EvA (μ : Nat) (is : List RI) (pc : Nat) (ls : RL) (st : List Value) (σ : RS) (w : Option Value) (τ : RS) : Prop := ∃ n, Ev n μ is pc ls st σ w τ
theorem EvA.c {μ : Nat} {x : RI} {is : List RI} {pc : Nat} {ls : RL} {st : List Value} {σ : RS} {w : Option Value} {τ : RS} (h : rxe x pc ls st σ (fun pc' ls' st' σ' => EvA μ is pc' ls' st' σ' w τ) (fun t st' => EvA μ [] t ls st' σ w τ) (fun w' => w' = w ∧ σ = τ) (fun μ' As st' => ∃ w' σ', EvM μ' As σ w' σ' ∧ EvA μ is (pc + 3) ls (w'.toList ++ st') σ' w τ)) : EvA μ (x :: is) pc ls st σ w τ := by sorry
theorem rdl_sub {i j : Nat} {ls ls' : RL} (h : ∀ q ∈ ls, q ∈ ls') : ∀ q ∈ rdl i j ls, q ∈ rdl i j ls' := by sorry
theorem rs1_sub {i : Nat} {v : Value} {ls ls' : RL} (h : ∀ q ∈ ls, q ∈ ls') : ∀ q ∈ rs1 ls i v, q ∈ rs1 ls' i v := by sorry
theorem rs2_sub {i : Nat} {v : Value} {ls ls' : RL} (h : ∀ q ∈ ls, q ∈ ls') : ∀ q ∈ rs2 ls i v, q ∈ rs2 ls' i v := by sorry
theorem rxe_sub {x : RI} {pc : Nat} {ls ls' : RL} {st : List Value} {σ : RS} {N N' : RK} {J J' : Nat → List Value → Prop} {R : Option Value → Prop} {C C' : Nat → List Value → List Value → Prop} (hs : ∀ q ∈ ls, q ∈ ls') (hN : ∀ pc ls st σ ls', (∀ q ∈ ls, q ∈ ls') → N pc ls st σ → N' pc ls' st σ) (hJ : ∀ t st, J t st → J' t st) (hC : ∀ μ As st, C μ As st → C' μ As st) (h : rxe x pc ls st σ N J R C) : rxe x pc ls' st σ N' J' R C' := by sorry
theorem Ev.sub : ∀ (n μ : Nat) (is : List RI) (pc : Nat) (ls ls' : RL) (st : List Value) (σ : RS) (w : Option Value) (τ : RS), (∀ q ∈ ls, q ∈ ls') → Ev n μ is pc ls st σ w τ → Ev n μ is pc ls' st σ w τ := by sorry
/-- a block's predicate, with what its run does beside -/
theorem rwp_E {ct ct' : RC} {G G' : RK} {Z Z' : Option Value → RS → Prop} {E : Option Value → RS → Prop} {μ : Nat}
    (hct : ∀ μ P Q, rct ct μ = some (P, Q) → rct ct' μ = some (P, fun As σ w τ => Q As σ w τ ∧ EvM μ As σ w τ))
    (hG : ∀ pc ls st σ, G pc ls st σ → (∀ w τ, EvA μ [] pc ls st σ w τ → E w τ) → G' pc ls st σ)
    (hZ : ∀ w τ, Z w τ → E w τ → Z' w τ) (is : List RI) : ∀ (pc : Nat) (ls : RL) (st : List Value) (σ : RS), is.all evo = true → rwp ct G Z is pc ls st σ → (∀ w τ, EvA μ is pc ls st σ w τ → E w τ) → rwp ct' G' Z' is pc ls st σ := by sorry
def RMetE (l : Launch) (lev μ : Nat) (P : RP) (Q : RQ) : Prop := RMet l lev μ P (fun As σ w τ => Q As σ w τ ∧ EvM μ As σ w τ)
def ctE (ct : RC) : RC := ct.map (fun q => (q.1, q.2.1, fun As σ w τ => q.2.2 As σ w τ ∧ EvM q.1 As σ w τ))
theorem rct_E (ct : RC) : ∀ μ P Q, rct ct μ = some (P, Q) → rct (ctE ct) μ = some (P, fun As σ w τ => Q As σ w τ ∧ EvM μ As σ w τ) := by sorry
theorem RMetE.by {l : Launch} {lev μ : Nat} {P : RP} {Q : RQ} {r : RM} (bs : RB) (ct : RC) (hv : evl μ = some bs) (ho : evs bs = true) (hr : mtab[μ]? = some r) (hok : rokM r.2.1 r.2.2.1 r.2.2.2.1 bs = true) (hct : ∀ q ∈ ctE ct, ∃ lv, lv < lev ∧ RMet l lv q.1 q.2.1 q.2.2)
    (hlen : ∀ (As : List Value) (σ : RS), P As σ → (lg_sl (.ref 1000 :: As)).length ≤ r.2.2.1)
    (body : ∀ (As : List Value) (σ : RS), P As σ → ∀ G : RK, (∀ (pc : Nat) (ls : RL) (st : List Value) (τ : RS), rgo bs ct G (Q As σ) pc ls st τ → G pc ls st τ) → (∀ (pc : Nat) (ls ls' : RL) (st : List Value) (τ : RS), (∀ q ∈ ls, q ∈ ls') → G pc ls st τ → G pc ls' st τ) → G 0 (lv_args 0 (.ref 1000 :: As)) [] σ) : RMetE l lev μ P Q := by sorry
def Bod (bs : RB) (ct : RC) (P : RP) (Q : RQ) : Prop := ∀ (As : List Value) (σ : RS), P As σ → ∀ G : RK, (∀ (pc : Nat) (ls : RL) (st : List Value) (τ : RS), rgo bs ct G (Q As σ) pc ls st τ → G pc ls st τ) → (∀ (pc : Nat) (ls ls' : RL) (st : List Value) (τ : RS), (∀ q ∈ ls, q ∈ ls') → G pc ls st τ → G pc ls' st τ) → G 0 (lv_args 0 (.ref 1000 :: As)) [] σ
theorem ctE0 {l : Launch} {lev : Nat} : ∀ q ∈ ctE ([] : RC), ∃ lv, lv < lev ∧ RMet l lv q.1 q.2.1 q.2.2 := fun _ h => absurd h List.not_mem_nil
theorem ctEc {l : Launch} {lev lv μ : Nat} {P : RP} {Q : RQ} {r : RC} (h : RMetE l lv μ P Q) (hl : lv < lev) (hr : ∀ q ∈ ctE r, ∃ lv, lv < lev ∧ RMet l lv q.1 q.2.1 q.2.2) : ∀ q ∈ ctE ((μ, P, Q) :: r), ∃ lv, lv < lev ∧ RMet l lv q.1 q.2.1 q.2.2 := by sorry
/-! the class's heap: objects and rows by their place in the world, which is their age -/
/-- a value: an int, a long, a reference (the place of an object, or a constant's number from 1000000 on) -/
abbrev AvC : Type := Int32 ⊕ Int64 ⊕ Option Nat
/-- how many, how many slots; tag and length; fields by their number; elements -/
abbrev CsC : Type := ((Nat × Nat) × Nat × Nat) × (Nat → Nat × Nat × Nat) × ((Nat → Nat → Int32) × (Nat → Nat → Int64) × (Nat → Nat → Option Nat)) × ((Nat → Nat → Int32) × (Nat → Nat → Int64) × (Nat → Nat → Option Nat))
def cnC (σ : CsC) : Nat := σ.1.1.1
def slC (σ : CsC) : Nat := σ.1.1.2
/-- how many there may be at most, and how many slots -/
def cpC (σ : CsC) : Nat := σ.1.2.1
def spC (σ : CsC) : Nat := σ.1.2.2
def tgC (σ : CsC) (a : Nat) : Nat := (σ.2.1 a).1
def alC (σ : CsC) (a : Nat) : Nat := (σ.2.1 a).2.1
/-- what else is to be known of it -/
def ghC (σ : CsC) (a : Nat) : Nat := (σ.2.1 a).2.2
def fIC (σ : CsC) (a k : Nat) : Int32 := σ.2.2.1.1 a k
def fLC (σ : CsC) (a k : Nat) : Int64 := σ.2.2.1.2.1 a k
def fRC (σ : CsC) (a k : Nat) : Option Nat := σ.2.2.1.2.2 a k
def eIC (σ : CsC) (a : Nat) : Nat → Int32 := σ.2.2.2.1 a
def eLC (σ : CsC) (a : Nat) : Nat → Int64 := σ.2.2.2.2.1 a
def eRC (σ : CsC) (a : Nat) : Nat → Option Nat := σ.2.2.2.2.2 a
def u2C {α : Type} (f : Nat → Nat → α) (a k : Nat) (v : α) : Nat → Nat → α := fun b j => match Nat.beq j k with
  | true => (match Nat.beq b a with
    | true => v
    | false => f b j)
  | false => f b j
def u1C {α : Type} (f : Nat → α) (a : Nat) (v : α) : Nat → α := fun b => match Nat.beq b a with
  | true => v
  | false => f b
def pIC (σ : CsC) (a k : Nat) (v : Int32) : CsC := (σ.1, σ.2.1, (u2C σ.2.2.1.1 a k v, σ.2.2.1.2.1, σ.2.2.1.2.2), σ.2.2.2)
def pLC (σ : CsC) (a k : Nat) (v : Int64) : CsC := (σ.1, σ.2.1, (σ.2.2.1.1, u2C σ.2.2.1.2.1 a k v, σ.2.2.1.2.2), σ.2.2.2)
def pRC (σ : CsC) (a k : Nat) (v : Option Nat) : CsC := (σ.1, σ.2.1, (σ.2.2.1.1, σ.2.2.1.2.1, u2C σ.2.2.1.2.2 a k v), σ.2.2.2)
def qIC (σ : CsC) (a : Nat) (f : Nat → Int32) : CsC := (σ.1, σ.2.1, σ.2.2.1, (u1C σ.2.2.2.1 a f, σ.2.2.2.2.1, σ.2.2.2.2.2))
def qLC (σ : CsC) (a : Nat) (f : Nat → Int64) : CsC := (σ.1, σ.2.1, σ.2.2.1, (σ.2.2.2.1, u1C σ.2.2.2.2.1 a f, σ.2.2.2.2.2))
def qRC (σ : CsC) (a : Nat) (f : Nat → Option Nat) : CsC := (σ.1, σ.2.1, σ.2.2.1, (σ.2.2.2.1, σ.2.2.2.2.1, u1C σ.2.2.2.2.2 a f))
/-- a new object of tag t with N fields; a new row of tag t and length n -/
def nOC (σ : CsC) (t N g : Nat) : CsC := (((cnC σ + 1, slC σ + N), σ.1.2), u1C σ.2.1 (cnC σ) (t, 0, g), (u1C σ.2.2.1.1 (cnC σ) (fun _ => 0), u1C σ.2.2.1.2.1 (cnC σ) (fun _ => 0), u1C σ.2.2.1.2.2 (cnC σ) (fun _ => none)), σ.2.2.2)
def nAC (σ : CsC) (t n g : Nat) : CsC := (((cnC σ + 1, slC σ + n), σ.1.2), u1C σ.2.1 (cnC σ) (t, n, g), σ.2.2.1, (u1C σ.2.2.2.1 (cnC σ) (fun _ => 0), u1C σ.2.2.2.2.1 (cnC σ) (fun _ => 0), u1C σ.2.2.2.2.2 (cnC σ) (fun _ => none)))
/-- another tag -/
def rTC (σ : CsC) (a t g : Nat) : CsC := (σ.1, u1C σ.2.1 a (t, (σ.2.1 a).2.1, g), σ.2.2)
/-- the same world: tags may differ where the class doesn't -/
def WeC (σ τ : CsC) : Prop := τ.1 = σ.1 ∧ τ.2.2 = σ.2.2 ∧ ∀ a, alC τ a = alC σ a ∧ (tgC τ a = tgC σ a ∨ (tgC σ a < 100 ∧ tgC τ a < 100 ∧ tgC τ a % 50 = tgC σ a % 50))
/-- a field's kind: 0 int, 1 boolean, 2 long, 3 reference -/
def fkC (k : Nat) : Nat := [0, 3, 0, 9, 9, 9, 9, 9, 9, 9, 9, 9, 9, 9, 9, 9, 9, 9, 9, 9, 9, 9, 9, 9, 9, 9, 9, 9, 9, 9, 3, 3, 3, 3, 0, 3, 3, 9, 9, 9, 9, 9, 9, 9, 9, 9, 9, 9, 9, 9, 9, 9, 9, 9, 9, 9, 9, 9, 9, 9, 0, 0, 0, 0, 0, 0, 0, 0, 0, 0, 1, 2, 3, 3, 3, 3, 3, 0, 9, 9, 9, 9, 9, 9, 9, 9, 9, 9, 9, 9, 3, 2, 2, 3, 0, 9, 9, 9, 9, 9, 9, 9, 9, 9, 9, 9, 9, 9, 9, 9, 9, 9, 9, 9, 9, 9, 9, 9, 9, 9, 3, 3, 9, 9, 9, 9, 9, 9, 9, 9, 9, 9, 9, 9, 9, 9, 9, 9, 9, 9, 9, 9, 9, 9, 9, 9, 9, 9, 9, 9, 3, 3, 3, 3, 3, 3, 3, 3, 3, 3, 0, 0, 0, 0, 0, 0, 0, 0, 0, 0, 2, 9, 9, 9, 9, 9, 9, 9, 9, 9, 0, 2, 0, 3, 0, 0, 3, 9, 9, 9, 9, 9, 9, 9, 9, 9, 9, 9, 9, 9, 9, 9, 9, 9, 9, 9, 9, 9, 9, 9, 3, 3, 3, 3, 3, 3, 3, 0, 0, 9, 9, 9, 9, 9, 9, 9, 9, 9, 9, 9, 9, 9, 9, 9, 9, 9, 9, 9, 9, 9, 3, 3, 0, 0, 0, 2, 3, 9, 9, 9, 9, 9, 9, 9, 9, 9, 9, 9, 9, 9, 9, 9, 9, 9, 9, 9, 9, 9, 9, 9, 0, 0, 0, 3, 2, 3, 3, 3, 3, 3, 0, 3, 1, 1, 1, 2, 2, 2, 2, 0, 0, 9, 9, 9, 9, 9, 9, 9, 9, 9, 3, 3, 3, 3, 3, 0, 3, 3, 0, 9, 9, 9, 9, 9, 9, 9, 9, 9, 9, 9, 9, 9, 9, 9, 9, 9, 9, 9, 9, 9, 0, 0, 1, 0, 1, 1, 2, 9, 9, 9, 9, 9, 9, 9, 9, 9, 9, 9, 9, 9, 9, 9, 9, 9, 9, 9, 9, 9, 9, 9, 3, 3, 3, 3, 3, 3, 3, 3, 3, 0, 0, 0, 1, 9, 9, 9, 9, 9, 9, 9, 9, 9, 9, 9, 9, 9, 9, 9, 9, 9].getD k 9
def nfC (k : Nat) : Nat := [3, 7, 18, 5, 2, 21, 7, 9, 7, 21, 9, 7, 13].getD k 0
/-- the class of an object's tag: an object under construction has 50 more -/
def clsC (t : Nat) : Nat := t % 50
def cvC (ad : Nat → Nat) (v : AvC) : Value := match v with
  | .inl x => .int x
  | .inr (.inl x) => .long x
  | .inr (.inr none) => .null
  | .inr (.inr (some a)) => .ref (ad a)
def fvlC (ad : Nat → Nat) (σ : CsC) (a k : Nat) : Value := match fkC k with
  | 0 => .int (fIC σ a k)
  | 1 => .int (fIC σ a k)
  | 2 => .long (fLC σ a k)
  | _ => cvC ad (.inr (.inr (fRC σ a k)))
def flsC (ad : Nat → Nat) (σ : CsC) (a c : Nat) : List Value := (List.range (nfC c)).map (fun j => fvlC ad σ a (30 * c + j))
/-- rows: 100 ints, 101 bytes, 102 longs, from 103 on references (Object, Exp, Statement) -/
def rdtC (ad : Nat → Nat) (σ : CsC) (a t : Nat) : vp_A := (alC σ a, match t with
  | 100 => .inl (eIC σ a)
  | 101 => .inl (eIC σ a)
  | 102 => .inr (.inl (eLC σ a))
  | _ => .inr (.inr (.inr (.inr (fun i => (eRC σ a i).map ad)))))
def entC (ad : Nat → Nat) (kA : Nat → ClassId) (σ : CsC) (a : Nat) : va_E := match Nat.blt (tgC σ a) 100 with
  | true => .inr (clsC (tgC σ a), flsC ad σ a (clsC (tgC σ a)))
  | false => .inl (kA (tgC σ a), rdtC ad σ a (tgC σ a))
def rtyC (t : Nat) : FieldType := match t with
  | 100 => .int
  | 101 => .byte
  | 102 => .long
  | 103 => .object "java/lang/Object"
  | 104 => .object "PlainJava$Exp"
  | _ => .object "PlainJava$Statement"
/-- the world of a state -/
def CrC (ad : Nat → Nat) (kA : Nat → ClassId) (σ : CsC) (ws : va_W) : Prop := ws.length = cnC σ ∧ ∀ a, a < cnC σ → ws[a]? = some (ad a, entC ad kA σ a)
/-- the classes of rows -/
def tyC (kA : Nat → ClassId) : List (ClassId × FieldType) := [(kA 100, .int), (kA 101, .byte), (kA 102, .long), (kA 103, .object "java/lang/Object"), (kA 104, .object "PlainJava$Exp"), (kA 105, .object "PlainJava$Statement")]
theorem u2C_eq {α : Type} {f : Nat → Nat → α} {a k : Nat} {v : α} : u2C f a k v a k = v := by sorry
theorem u2C_nk {α : Type} {f : Nat → Nat → α} {a k b j : Nat} {v : α} (h : j ≠ k) : u2C f a k v b j = f b j := by sorry
theorem u2C_na {α : Type} {f : Nat → Nat → α} {a k b j : Nat} {v : α} (h : b ≠ a) : u2C f a k v b j = f b j := by sorry
theorem u1C_eq {α : Type} {f : Nat → α} {a : Nat} {v : α} : u1C f a v a = v := by sorry
theorem u1C_ne {α : Type} {f : Nat → α} {a b : Nat} {v : α} (h : b ≠ a) : u1C f a v b = f b := by sorry
theorem flsC_len {ad : Nat → Nat} {σ : CsC} {a c : Nat} : (flsC ad σ a c).length = nfC c := by sorry
theorem flsC_at {ad : Nat → Nat} {σ : CsC} {a c j : Nat} (h : j < nfC c) : (flsC ad σ a c)[j]? = some (fvlC ad σ a (30 * c + j)) := by sorry
theorem flsC_set {ad : Nat → Nat} {σ τ : CsC} {a c j : Nat} {v : Value} (hj : j < nfC c) (hv : fvlC ad τ a (30 * c + j) = v) (ho : ∀ i, i ≠ j → fvlC ad τ a (30 * c + i) = fvlC ad σ a (30 * c + i)) : (flsC ad σ a c).set j v = flsC ad τ a c := by sorry
/-- an object of class c stands there -/
def ObC (σ : CsC) (a c : Nat) : Prop := a < cnC σ ∧ tgC σ a < 100 ∧ clsC (tgC σ a) = c
/-- a row of tag t stands there -/
def RwC (σ : CsC) (a t : Nat) : Prop := a < cnC σ ∧ tgC σ a = t
theorem entC_ob {ad : Nat → Nat} {kA : Nat → ClassId} {σ : CsC} {a c : Nat} (h : ObC σ a c) : entC ad kA σ a = .inr (c, flsC ad σ a c) := by sorry
theorem entC_rw {ad : Nat → Nat} {kA : Nat → ClassId} {σ : CsC} {a t : Nat} (h : RwC σ a t) (ht : 100 ≤ t) : entC ad kA σ a = .inl (kA t, rdtC ad σ a t) := by sorry
/-- one entry of the world is set -/
theorem CrC.set {ad : Nat → Nat} {kA : Nat → ClassId} {σ τ : CsC} {ws : va_W} {a : Nat} {e : va_E} (h : CrC ad kA σ ws) (ha : a < cnC σ) (hc : cnC τ = cnC σ) (he : entC ad kA τ a = e) (ho : ∀ b, b ≠ a → entC ad kA τ b = entC ad kA σ b) : CrC ad kA τ (ws.set a (ad a, e)) := by sorry
/-- one entry more -/
theorem CrC.push {ad : Nat → Nat} {kA : Nat → ClassId} {σ τ : CsC} {ws : va_W} {e : va_E} (h : CrC ad kA σ ws) (hc : cnC τ = cnC σ + 1) (he : entC ad kA τ (cnC σ) = e) (ho : ∀ b, b < cnC σ → entC ad kA τ b = entC ad kA σ b) : CrC ad kA τ (ws ++ [(ad (cnC σ), e)]) := by sorry
theorem entC_congr {ad : Nat → Nat} {kA : Nat → ClassId} {σ τ : CsC} {b : Nat} (ht : tgC τ b = tgC σ b) (hf : ∀ k, fvlC ad τ b k = fvlC ad σ b k) (hd : ∀ t, rdtC ad τ b t = rdtC ad σ b t) : entC ad kA τ b = entC ad kA σ b := by sorry
theorem fvlC_pI {ad : Nat → Nat} {σ : CsC} {a b k j : Nat} {v : Int32} (h : j ≠ k ∨ b ≠ a) : fvlC ad (pIC σ a k v) b j = fvlC ad σ b j := by sorry
theorem fvlC_pL {ad : Nat → Nat} {σ : CsC} {a b k j : Nat} {v : Int64} (h : j ≠ k ∨ b ≠ a) : fvlC ad (pLC σ a k v) b j = fvlC ad σ b j := by sorry
theorem fvlC_pR {ad : Nat → Nat} {σ : CsC} {a b k j : Nat} {v : Option Nat} (h : j ≠ k ∨ b ≠ a) : fvlC ad (pRC σ a k v) b j = fvlC ad σ b j := by sorry
theorem CrC.pI {ad : Nat → Nat} {kA : Nat → ClassId} {σ : CsC} {ws : va_W} {a c j : Nat} {v : Int32} (h : CrC ad kA σ ws) (ho : ObC σ a c) (hj : j < nfC c) (hk : fkC (30 * c + j) = 0 ∨ fkC (30 * c + j) = 1) : CrC ad kA (pIC σ a (30 * c + j) v) (ws.set a (ad a, .inr (c, (flsC ad σ a c).set j (.int v)))) := by sorry
theorem CrC.pL {ad : Nat → Nat} {kA : Nat → ClassId} {σ : CsC} {ws : va_W} {a c j : Nat} {v : Int64} (h : CrC ad kA σ ws) (ho : ObC σ a c) (hj : j < nfC c) (hk : fkC (30 * c + j) = 2) : CrC ad kA (pLC σ a (30 * c + j) v) (ws.set a (ad a, .inr (c, (flsC ad σ a c).set j (.long v)))) := by sorry
theorem CrC.pR {ad : Nat → Nat} {kA : Nat → ClassId} {σ : CsC} {ws : va_W} {a c j : Nat} {v : Option Nat} (h : CrC ad kA σ ws) (ho : ObC σ a c) (hj : j < nfC c) (hk : fkC (30 * c + j) = 3) : CrC ad kA (pRC σ a (30 * c + j) v) (ws.set a (ad a, .inr (c, (flsC ad σ a c).set j (cvC ad (.inr (.inr v)))))) := by sorry
theorem CrC.qI {ad : Nat → Nat} {kA : Nat → ClassId} {σ : CsC} {ws : va_W} {a t : Nat} {f : Nat → Int32} (h : CrC ad kA σ ws) (ho : RwC σ a t) (ht : t = 100 ∨ t = 101) : CrC ad kA (qIC σ a f) (ws.set a (ad a, .inl (kA t, (alC σ a, .inl f)))) := by sorry
theorem CrC.qL {ad : Nat → Nat} {kA : Nat → ClassId} {σ : CsC} {ws : va_W} {a : Nat} {f : Nat → Int64} (h : CrC ad kA σ ws) (ho : RwC σ a 102) : CrC ad kA (qLC σ a f) (ws.set a (ad a, .inl (kA 102, (alC σ a, .inr (.inl f))))) := by sorry
theorem rdtC_r {ad : Nat → Nat} {σ : CsC} {a t : Nat} (ht : t = 103 ∨ t = 104 ∨ t = 105) : rdtC ad σ a t = (alC σ a, .inr (.inr (.inr (.inr (fun i => (eRC σ a i).map ad))))) := by sorry
theorem CrC.qR {ad : Nat → Nat} {kA : Nat → ClassId} {σ : CsC} {ws : va_W} {a t : Nat} {f : Nat → Option Nat} (h : CrC ad kA σ ws) (ho : RwC σ a t) (ht : t = 103 ∨ t = 104 ∨ t = 105) : CrC ad kA (qRC σ a f) (ws.set a (ad a, .inl (kA t, (alC σ a, .inr (.inr (.inr (.inr (fun i => (f i).map ad)))))))) := by sorry
/-- the fields of a new object of class c -/
def dflC (c : Nat) : List Value := (List.range (nfC c)).map (fun j => match fkC (30 * c + j) with
  | 0 => .int 0
  | 1 => .int 0
  | 2 => .long 0
  | _ => .null)
theorem CrC.nO {ad : Nat → Nat} {kA : Nat → ClassId} {σ : CsC} {ws : va_W} {t N g : Nat} (h : CrC ad kA σ ws) (ht : t < 100) : CrC ad kA (nOC σ t N g) (ws ++ [(ad (cnC σ), .inr (clsC t, dflC (clsC t)))]) := by sorry
theorem CrC.nA {ad : Nat → Nat} {kA : Nat → ClassId} {σ : CsC} {ws : va_W} {t n g : Nat} (h : CrC ad kA σ ws) (ht : 100 ≤ t) : CrC ad kA (nAC σ t n g) (ws ++ [(ad (cnC σ), .inl (kA t, rdtC ad (nAC σ t n g) (cnC σ) t))]) := by sorry
theorem CrC.we {ad : Nat → Nat} {kA : Nat → ClassId} {σ τ : CsC} {ws : va_W} (h : CrC ad kA σ ws) (hw : WeC σ τ) : CrC ad kA τ ws := by sorry
theorem WeC.rf {σ : CsC} : WeC σ σ := ⟨rfl, rfl, fun _ => ⟨rfl, Or.inl rfl⟩⟩
theorem WeC.tr {σ τ υ : CsC} (h1 : WeC σ τ) (h2 : WeC τ υ) : WeC σ υ := by sorry
theorem WeC.t {σ : CsC} {a t g : Nat} (h : tgC σ a = t ∨ (tgC σ a < 100 ∧ t < 100 ∧ t % 50 = tgC σ a % 50)) : WeC σ (rTC σ a t g) := by sorry
def stvC : List Int32 := [0, 0, 0, 0, 0, 0, 0, 0, 0, 0, 0, 0, 0, 0, 0, 0, 0, 0, 0, 0, 1, 2, 3, 4, 5, 6, 6, 7, 7, 7, 7, 8, 8, 8, 9, 9, 10, 10, 10, 0, 0, 0, 0]
def opvC : List Int32 := [34, 35, 36, 37, 38, 24, 22, 23, 31, 32, 33]
/-! an instruction of the class: what must hold -/
abbrev ClC : Type := List (Nat × AvC)
abbrev CkC : Type := Nat → ClC → List AvC → CsC → Prop
abbrev CpC : Type := List AvC → CsC → Prop
abbrev CqC : Type := List AvC → CsC → Option AvC → CsC → Prop
abbrev CcC : Type := List (Nat × CpC × CqC)
def lkC (ls : ClC) (i : Nat) : Option AvC := match ls with
  | [] => none
  | q :: r => match Nat.beq q.1 i with
    | true => some q.2
    | false => lkC r i
def kyC (i j : Nat) (q : Nat × AvC) : Bool := match Nat.beq q.1 i with
  | true => false
  | false => match Nat.beq q.1 j with
    | true => false
    | false => match Nat.beq (q.1 + 1) i with
      | false => true
      | true => match q.2 with
        | .inr (.inl _) => false
        | _ => true
def dlC (i j : Nat) : ClC → ClC
  | [] => []
  | q :: r => match kyC i j q with
    | true => q :: dlC i j r
    | false => dlC i j r
def s1C (ls : ClC) (i : Nat) (v : AvC) : ClC := (i, v) :: dlC i i ls
def s2C (ls : ClC) (i : Nat) (v : AvC) : ClC := (i, v) :: dlC i (i + 1) ls
def csC (st : List AvC) : Nat := match st with
  | [] => 0
  | .inr (.inl _) :: r => csC r + 2
  | _ :: r => csC r + 1
def ctC (ct : CcC) (μ : Nat) : Option (CpC × CqC) := match ct with
  | [] => none
  | q :: r => match Nat.beq q.1 μ with
    | true => some q.2
    | false => ctC r μ
/-- a value of a kind -/
def kvC (k : Nat) (v : AvC) : Prop := match k with
  | 0 => ∃ x, v = .inl x
  | 1 => v = .inl 0 ∨ v = .inl 1
  | 2 => ∃ x, v = .inr (.inl x)
  | _ => ∃ x, v = .inr (.inr x)
def gtC (σ : CsC) (a k : Nat) : AvC := match fkC k with
  | 0 => .inl (fIC σ a k)
  | 1 => .inl (fIC σ a k)
  | 2 => .inr (.inl (fLC σ a k))
  | _ => .inr (.inr (fRC σ a k))
/-- what a row of references may hold: tag, and the value -/
def hoC (σ : CsC) (t : Nat) (x : Option Nat) : Prop := match x with
  | none => True
  | some b => (t = 104 ∧ ObC σ b 2) ∨ (t = 105 ∧ ObC σ b 9) ∨ (t = 103 ∧ ∃ c, (c = 2 ∨ c = 6 ∨ c = 9 ∨ c = 11) ∧ ObC σ b c)
/-- a receiver: an object of the class, or a text -/
def RcC (σ : CsC) (a c : Nat) : Prop := (ObC σ a c ∧ c < 13) ∨ (c = 13 ∧ 1000003 ≤ a ∧ a < 1000007)
def cstC (ct : CcC) (K : CkC) (Z : Option AvC → CsC → Prop) (x : RI) (pc : Nat) (ls : ClC) (st : List AvC) (σ : CsC) (k : CkC) : Prop :=
  match x.1 with
  | .iconst n => k (pc + 1) ls (.inl (Int32.ofInt n) :: st) σ
  | .bipush n => k (pc + 2) ls (.inl (Int32.ofInt n) :: st) σ
  | .sipush n => k (pc + 3) ls (.inl (Int32.ofInt n) :: st) σ
  | .lconst n => k (pc + 1) ls (.inr (.inl (Int64.ofNat (n : Nat))) :: st) σ
  | .ldc2_w _ => k (pc + 3) ls (.inr (.inl (Int64.ofInt x.2.2.1)) :: st) σ
  | .aconst_null => k (pc + 1) ls (.inr (.inr none) :: st) σ
  | .ldc _ => match Nat.beq x.2.2.2.1 0 with
    | true => k (pc + 2) ls (.inl (Int32.ofInt x.2.2.1) :: st) σ
    | false => k (pc + 2) ls (.inr (.inr (some x.2.2.2.1)) :: st) σ
  | .iload_n _ => match lkC ls x.2.2.2.1 with
    | some (.inl v) => k (pc + 1) ls (.inl v :: st) σ
    | _ => False
  | .iload n => match lkC ls n with
    | some (.inl v) => k (pc + 2) ls (.inl v :: st) σ
    | _ => False
  | .lload_n _ => match lkC ls x.2.2.2.1 with
    | some (.inr (.inl v)) => k (pc + 1) ls (.inr (.inl v) :: st) σ
    | _ => False
  | .lload n => match lkC ls n with
    | some (.inr (.inl v)) => k (pc + 2) ls (.inr (.inl v) :: st) σ
    | _ => False
  | .aload_n _ => match lkC ls x.2.2.2.1 with
    | some (.inr (.inr v)) => k (pc + 1) ls (.inr (.inr v) :: st) σ
    | _ => False
  | .aload n => match lkC ls n with
    | some (.inr (.inr v)) => k (pc + 2) ls (.inr (.inr v) :: st) σ
    | _ => False
  | .istore_n _ => match st with
    | .inl v :: r => k (pc + 1) (s1C ls x.2.2.2.1 (.inl v)) r σ
    | _ => False
  | .istore n => match st with
    | .inl v :: r => k (pc + 2) (s1C ls n (.inl v)) r σ
    | _ => False
  | .lstore_n _ => match st with
    | .inr (.inl v) :: r => k (pc + 1) (s2C ls x.2.2.2.1 (.inr (.inl v))) r σ
    | _ => False
  | .lstore n => match st with
    | .inr (.inl v) :: r => k (pc + 2) (s2C ls n (.inr (.inl v))) r σ
    | _ => False
  | .astore_n _ => match st with
    | .inr (.inr v) :: r => k (pc + 1) (s1C ls x.2.2.2.1 (.inr (.inr v))) r σ
    | _ => False
  | .astore n => match st with
    | .inr (.inr v) :: r => k (pc + 2) (s1C ls n (.inr (.inr v))) r σ
    | _ => False
  | .iinc n d => match lkC ls n with
    | some (.inl v) => k (pc + 3) (s1C ls n (.inl (v + Int32.ofInt d))) st σ
    | _ => False
  | .iadd => match st with
    | .inl y :: .inl x :: r => k (pc + 1) ls (.inl (x + y) :: r) σ
    | _ => False
  | .isub => match st with
    | .inl y :: .inl x :: r => k (pc + 1) ls (.inl (x - y) :: r) σ
    | _ => False
  | .iand => match st with
    | .inl y :: .inl x :: r => k (pc + 1) ls (.inl (x &&& y) :: r) σ
    | _ => False
  | .ior => match st with
    | .inl y :: .inl x :: r => k (pc + 1) ls (.inl (x ||| y) :: r) σ
    | _ => False
  | .ishr => match st with
    | .inl y :: .inl x :: r => k (pc + 1) ls (.inl (x >>> (y &&& 31)) :: r) σ
    | _ => False
  | .imul => match st with
    | .inl y :: .inl x :: r => k (pc + 1) ls (.inl (x * y) :: r) σ
    | _ => False
  | .ishl => match st with
    | .inl y :: .inl x :: r => k (pc + 1) ls (.inl (x <<< (y &&& 31)) :: r) σ
    | _ => False
  | .iushr => match st with
    | .inl y :: .inl x :: r => k (pc + 1) ls (.inl ((x.toUInt32 >>> (y.toUInt32 &&& Int32.toUInt32 31)).toInt32) :: r) σ
    | _ => False
  | .irem => match st with
    | .inl y :: .inl x :: r => ¬ y = 0 ∧ k (pc + 1) ls (.inl (x - x / y * y) :: r) σ
    | _ => False
  | .ladd => match st with
    | .inr (.inl y) :: .inr (.inl x) :: r => k (pc + 1) ls (.inr (.inl (x + y)) :: r) σ
    | _ => False
  | .lsub => match st with
    | .inr (.inl y) :: .inr (.inl x) :: r => k (pc + 1) ls (.inr (.inl (x - y)) :: r) σ
    | _ => False
  | .lmul => match st with
    | .inr (.inl y) :: .inr (.inl x) :: r => k (pc + 1) ls (.inr (.inl (x * y)) :: r) σ
    | _ => False
  | .land => match st with
    | .inr (.inl y) :: .inr (.inl x) :: r => k (pc + 1) ls (.inr (.inl (x &&& y)) :: r) σ
    | _ => False
  | .lor => match st with
    | .inr (.inl y) :: .inr (.inl x) :: r => k (pc + 1) ls (.inr (.inl (x ||| y)) :: r) σ
    | _ => False
  | .lxor => match st with
    | .inr (.inl y) :: .inr (.inl x) :: r => k (pc + 1) ls (.inr (.inl (x ^^^ y)) :: r) σ
    | _ => False
  | .ldiv => match st with
    | .inr (.inl y) :: .inr (.inl x) :: r => ¬ y = 0 ∧ k (pc + 1) ls (.inr (.inl (x / y)) :: r) σ
    | _ => False
  | .lrem => match st with
    | .inr (.inl y) :: .inr (.inl x) :: r => ¬ y = 0 ∧ k (pc + 1) ls (.inr (.inl (x - x / y * y)) :: r) σ
    | _ => False
  | .lshl => match st with
    | .inl y :: .inr (.inl x) :: r => k (pc + 1) ls (.inr (.inl (x <<< (y.toInt64 &&& 63))) :: r) σ
    | _ => False
  | .lshr => match st with
    | .inl y :: .inr (.inl x) :: r => k (pc + 1) ls (.inr (.inl (x >>> (y.toInt64 &&& 63))) :: r) σ
    | _ => False
  | .lushr => match st with
    | .inl y :: .inr (.inl x) :: r => k (pc + 1) ls (.inr (.inl ((x.toUInt64 >>> (y.toInt64.toUInt64 &&& Int64.toUInt64 63)).toInt64)) :: r) σ
    | _ => False
  | .lneg => match st with
    | .inr (.inl x) :: r => k (pc + 1) ls (.inr (.inl (-x)) :: r) σ
    | _ => False
  | .lcmp => match st with
    | .inr (.inl y) :: .inr (.inl x) :: r => k (pc + 1) ls (.inl (lg_cmp x y) :: r) σ
    | _ => False
  | .i2l => match st with
    | .inl x :: r => k (pc + 1) ls (.inr (.inl x.toInt64) :: r) σ
    | _ => False
  | .l2i => match st with
    | .inr (.inl x) :: r => k (pc + 1) ls (.inl x.toInt32 :: r) σ
    | _ => False
  | .i2b => match st with
    | .inl x :: r => k (pc + 1) ls (.inl x.toInt8.toInt32 :: r) σ
    | _ => False
  | .i2c => match st with
    | .inl x :: r => k (pc + 1) ls (.inl (x.toUInt32 % 65536).toInt32 :: r) σ
    | _ => False
  | .dup => match st with
    | .inl v :: r => k (pc + 1) ls (.inl v :: .inl v :: r) σ
    | .inr (.inr v) :: r => k (pc + 1) ls (.inr (.inr v) :: .inr (.inr v) :: r) σ
    | _ => False
  | .dup_x1 => match st with
    | .inl v :: .inr (.inr y) :: r => k (pc + 1) ls (.inl v :: .inr (.inr y) :: .inl v :: r) σ
    | .inr (.inr v) :: .inr (.inr y) :: r => k (pc + 1) ls (.inr (.inr v) :: .inr (.inr y) :: .inr (.inr v) :: r) σ
    | _ => False
  | .pop => match st with
    | .inl _ :: r => k (pc + 1) ls r σ
    | .inr (.inr _) :: r => k (pc + 1) ls r σ
    | _ => False
  | .pop2 => match st with
    | .inr (.inl _) :: r => k (pc + 1) ls r σ
    | _ => False
  | .ifCond c _ => match st with
    | .inl v :: r => (rcd c v 0 → K x.2.2.2.1 ls r σ) ∧ (rno c v 0 → k (pc + 3) ls r σ)
    | _ => False
  | .if_icmp c _ => match st with
    | .inl y :: .inl v :: r => (rcd c v y → K x.2.2.2.1 ls r σ) ∧ (rno c v y → k (pc + 3) ls r σ)
    | _ => False
  | .ifnull _ => match st with
    | .inr (.inr v) :: r => (v = none → K x.2.2.2.1 ls r σ) ∧ (∀ a, v = some a → k (pc + 3) ls r σ)
    | _ => False
  | .ifnonnull _ => match st with
    | .inr (.inr v) :: r => (∀ a, v = some a → K x.2.2.2.1 ls r σ) ∧ (v = none → k (pc + 3) ls r σ)
    | _ => False
  | .if_acmp c _ => match st with
    | .inr (.inr y) :: .inr (.inr v) :: r => (match c with
      | .eq => (v = y → K x.2.2.2.1 ls r σ) ∧ (¬ v = y → k (pc + 3) ls r σ)
      | .ne => (¬ v = y → K x.2.2.2.1 ls r σ) ∧ (v = y → k (pc + 3) ls r σ)) ∧ ((v = y) ∨ ((∀ a, v = some a → a < cnC σ) ∧ ∀ a, y = some a → a < cnC σ))
    | _ => False
  | .goto _ => K x.2.2.2.1 ls st σ
  | .tableswitch _ _ _ _ => match st with
    | .inl v :: r => rsw v.toInt x.2.2.2.2 x.2.2.2.1 (fun t => K t ls r σ)
    | _ => False
  | .lookupswitch _ _ => match st with
    | .inl v :: r => rsw v.toInt x.2.2.2.2 x.2.2.2.1 (fun t => K t ls r σ)
    | _ => False
  | .ireturn => match st with
    | [.inl v] => (x.2.2.1 = 2 → v = 0 ∨ v = 1) ∧ Z (some (.inl v)) σ
    | _ => False
  | .lreturn => match st with
    | [.inr (.inl v)] => Z (some (.inr (.inl v))) σ
    | _ => False
  | .areturn => match st with
    | [.inr (.inr v)] => Z (some (.inr (.inr v))) σ
    | _ => False
  | .return_ => match st with
    | [] => ∃ τ, WeC σ τ ∧ Z none τ
    | _ => False
  | .getfield _ => match st with
    | .inr (.inr v) :: r => ∃ a, v = some a ∧ ObC σ a (x.2.2.2.1 / 30) ∧ k (pc + 3) ls (gtC σ a x.2.2.2.1 :: r) σ
    | _ => False
  | .putfield _ => match st with
    | .inl w :: .inr (.inr v) :: r => ∃ a, v = some a ∧ ObC σ a (x.2.2.2.1 / 30) ∧ (fkC x.2.2.2.1 = 0 ∨ (fkC x.2.2.2.1 = 1 ∧ (w = 0 ∨ w = 1))) ∧ k (pc + 3) ls r (pIC σ a x.2.2.2.1 w)
    | .inr (.inl w) :: .inr (.inr v) :: r => ∃ a, v = some a ∧ ObC σ a (x.2.2.2.1 / 30) ∧ fkC x.2.2.2.1 = 2 ∧ k (pc + 3) ls r (pLC σ a x.2.2.2.1 w)
    | .inr (.inr w) :: .inr (.inr v) :: r => ∃ a, v = some a ∧ ObC σ a (x.2.2.2.1 / 30) ∧ fkC x.2.2.2.1 = 3 ∧ k (pc + 3) ls r (pRC σ a x.2.2.2.1 w)
    | _ => False
  | .iaload => match st with
    | .inl j :: .inr (.inr v) :: r => ∃ a, v = some a ∧ ((RwC σ a 100 ∧ vp_in j (alC σ a) ∧ k (pc + 1) ls (.inl (eIC σ a j.toNatClampNeg) :: r) σ) ∨ (a = 1000001 ∧ vp_in j 43 ∧ k (pc + 1) ls (.inl (stvC.getD j.toNatClampNeg 0) :: r) σ) ∨ (a = 1000002 ∧ vp_in j 11 ∧ k (pc + 1) ls (.inl (opvC.getD j.toNatClampNeg 0) :: r) σ))
    | _ => False
  | .baload => match st with
    | .inl j :: .inr (.inr v) :: r => ∃ a, v = some a ∧ RwC σ a 101 ∧ vp_in j (alC σ a) ∧ k (pc + 1) ls (.inl (eIC σ a j.toNatClampNeg) :: r) σ
    | _ => False
  | .laload => match st with
    | .inl j :: .inr (.inr v) :: r => ∃ a, v = some a ∧ RwC σ a 102 ∧ vp_in j (alC σ a) ∧ k (pc + 1) ls (.inr (.inl (eLC σ a j.toNatClampNeg)) :: r) σ
    | _ => False
  | .aaload => match st with
    | .inl j :: .inr (.inr v) :: r => ∃ a t, v = some a ∧ RwC σ a t ∧ (t = 103 ∨ t = 104 ∨ t = 105) ∧ vp_in j (alC σ a) ∧ k (pc + 1) ls (.inr (.inr (eRC σ a j.toNatClampNeg)) :: r) σ
    | _ => False
  | .iastore => match st with
    | .inl w :: .inl j :: .inr (.inr v) :: r => ∃ a, v = some a ∧ RwC σ a 100 ∧ vp_in j (alC σ a) ∧ k (pc + 1) ls r (qIC σ a (upd (eIC σ a) j.toNatClampNeg w))
    | _ => False
  | .bastore => match st with
    | .inl w :: .inl j :: .inr (.inr v) :: r => ∃ a, v = some a ∧ RwC σ a 101 ∧ vp_in j (alC σ a) ∧ k (pc + 1) ls r (qIC σ a (upd (eIC σ a) j.toNatClampNeg (vp_nar .byte w)))
    | _ => False
  | .lastore => match st with
    | .inr (.inl w) :: .inl j :: .inr (.inr v) :: r => ∃ a, v = some a ∧ RwC σ a 102 ∧ vp_in j (alC σ a) ∧ k (pc + 1) ls r (qLC σ a (vp_updL (eLC σ a) j.toNatClampNeg w))
    | _ => False
  | .aastore => match st with
    | .inr (.inr w) :: .inl j :: .inr (.inr v) :: r => ∃ a t, v = some a ∧ RwC σ a t ∧ (t = 103 ∨ t = 104 ∨ t = 105) ∧ vp_in j (alC σ a) ∧ hoC σ t w ∧ k (pc + 1) ls r (qRC σ a (va_up (eRC σ a) j.toNatClampNeg w))
    | _ => False
  | .arraylength => match st with
    | .inr (.inr v) :: r => ∃ a, v = some a ∧ ((a < cnC σ ∧ 100 ≤ tgC σ a ∧ tgC σ a ≤ 105 ∧ alC σ a < 2147483648 ∧ k (pc + 1) ls (.inl (nI (alC σ a)) :: r) σ) ∨ ∃ n, ((a = 1000000 ∧ n = 0) ∨ (a = 1000001 ∧ n = 43) ∨ (a = 1000002 ∧ n = 11)) ∧ k (pc + 1) ls (.inl (nI n) :: r) σ)
    | _ => False
  | .newarray _ => match st with
    | .inl n :: r => 0 ≤ n ∧ n ≤ 1000000 ∧ cnC σ + 1 ≤ cpC σ ∧ slC σ + n.toNatClampNeg ≤ spC σ ∧ k (pc + 2) ls (.inr (.inr (some (cnC σ))) :: r) (nAC σ x.2.2.2.1 n.toNatClampNeg x.2.2.1.toNat)
    | _ => False
  | .anewarray _ => match st with
    | .inl n :: r => 0 ≤ n ∧ n ≤ 1000000 ∧ cnC σ + 1 ≤ cpC σ ∧ slC σ + n.toNatClampNeg ≤ spC σ ∧ k (pc + 3) ls (.inr (.inr (some (cnC σ))) :: r) (nAC σ x.2.2.2.1 n.toNatClampNeg x.2.2.1.toNat)
    | _ => False
  | .new _ => cnC σ + 1 ≤ cpC σ ∧ slC σ + nfC x.2.2.2.1 ≤ spC σ ∧ k (pc + 3) ls (.inr (.inr (some (cnC σ))) :: st) (nOC σ (x.2.2.2.1 + 50) (nfC x.2.2.2.1) x.2.2.1.toNat)
  | .checkcast _ => match st with
    | .inr (.inr none) :: r => k (pc + 3) ls (.inr (.inr none) :: r) σ
    | .inr (.inr (some a)) :: r => ObC σ a x.2.2.2.1 ∧ k (pc + 3) ls (.inr (.inr (some a)) :: r) σ
    | _ => False
  | .getstatic _ => k (pc + 3) ls (.inr (.inr (some x.2.2.2.1)) :: st) σ
  | .invokevirtual _ => match Nat.beq x.2.2.2.1 9998 with
    | true => (match st with
      | .inr (.inr v) :: r => ∃ a, v = some a ∧ RwC σ a 103 ∧ csC r ≤ 8 ∧ k (pc + 3) ls (.inr (.inr (some 1000011)) :: r) σ
      | _ => False)
    | false => match ctC ct x.2.2.2.1 with
        | some (P, Q) => match st.drop x.2.2.1.toNat with
          | .inr (.inr (some a)) :: r => csC r ≤ 8 ∧ RcC σ a (x.2.2.2.2.length) ∧ P (.inr (.inr (some a)) :: (st.take x.2.2.1.toNat).reverse) σ ∧ ∀ w τ, Q (.inr (.inr (some a)) :: (st.take x.2.2.1.toNat).reverse) σ w τ → k (pc + 3) ls (w.toList ++ r) τ
          | _ => False
        | none => False
  | .invokespecial _ => match Nat.beq x.2.2.2.1 9999 with
    | true => (match st with
      | .inr (.inr (some _)) :: r => csC r ≤ 8 ∧ k (pc + 3) ls r σ
      | _ => False)
    | false => match ctC ct x.2.2.2.1 with
      | some (P, Q) => match st.drop x.2.2.1.toNat with
        | .inr (.inr (some a)) :: r => csC r ≤ 8 ∧ P (.inr (.inr (some a)) :: (st.take x.2.2.1.toNat).reverse) σ ∧ ∀ w τ, Q (.inr (.inr (some a)) :: (st.take x.2.2.1.toNat).reverse) σ w τ → k (pc + 3) ls (w.toList ++ r) τ
        | _ => False
      | none => False
  | .invokestatic _ => match Nat.ble 9990 x.2.2.2.1 with
    | true => (match Nat.beq x.2.2.2.1 9997 with
      | true => (match st with
        | .inl n :: .inl dp :: .inr (.inr w) :: .inl sp :: .inr (.inr v) :: r => ∃ a b, v = some a ∧ w = some b ∧ RwC σ a 103 ∧ RwC σ b 103 ∧ (¬ sp < 0 ∧ ¬ dp < 0 ∧ ¬ n < 0) ∧ (sp.toNatClampNeg + n.toNatClampNeg ≤ alC σ a ∧ dp.toNatClampNeg + n.toNatClampNeg ≤ alC σ b) ∧ (∀ i, i < n.toNatClampNeg → hoC σ 103 (eRC σ a (sp.toNatClampNeg + i))) ∧ csC r ≤ 8 ∧ k (pc + 3) ls r (qRC σ b (va_cpy (eRC σ a) (eRC σ b) sp.toNatClampNeg dp.toNatClampNeg n.toNatClampNeg))
        | _ => False)
      | false => (match Nat.beq x.2.2.2.1 9996 with
        | true => (match st with
          | .inl y :: .inl v :: r => csC r ≤ 8 ∧ k (pc + 3) ls (.inl (if y < v then y else v) :: r) σ
          | _ => False)
        | false => (match st with
          | .inl y :: .inl v :: r => csC r ≤ 8 ∧ k (pc + 3) ls (.inl (if v < y then y else v) :: r) σ
          | _ => False)))
    | false => match ctC ct x.2.2.2.1 with
        | some (P, Q) => x.2.2.1.toNat ≤ st.length ∧ csC (st.drop x.2.2.1.toNat) ≤ 8 ∧ P (st.take x.2.2.1.toNat).reverse σ ∧ ∀ w τ, Q (st.take x.2.2.1.toNat).reverse σ w τ → k (pc + 3) ls (w.toList ++ st.drop x.2.2.1.toNat) τ
        | none => False
  | _ => False
def cwpC (ct : CcC) (K : CkC) (Z : Option AvC → CsC → Prop) : List RI → CkC
  | [], pc, ls, st, σ => K pc ls st σ
  | x :: is, pc, ls, st, σ => cstC ct K Z x pc ls st σ (cwpC ct K Z is)
def cgoC (bs : RB) (ct : CcC) (K : CkC) (Z : Option AvC → CsC → Prop) : CkC := fun pc ls st σ => match rfd bs pc with
  | some is => cwpC ct K Z is pc ls st σ
  | none => False
def RJ0 : String := "java/lang/String"
def RJ7 : String := "java/util/Arrays"
def RJ15 : String := "java/util/Objects"
def RJ3 : String := "jdk/internal/util/Preconditions"
def RJ8 : String := "jdk/internal/util/ArraysSupport"
def RJxc12de : String := "java/util/AbstractList"
def RJxa1e45 : String := "java/util/AbstractCollection"
abbrev cX0_init : ByteArray := prog_2_method_1_code
def yX0_init : MethodName := ⟨RX0, "<init>", "(LPlainJava$Program;)V"⟩
abbrev cX0_lay : ByteArray := prog_2_method_2_code
def yX0_lay : MethodName := ⟨RX0, "lay", "(LPlainJava$Program;)V"⟩
abbrev cX0_put : ByteArray := prog_2_method_3_code
def yX0_put : MethodName := ⟨RX0, "put", "(ILPlainJava$Exp;)I"⟩
abbrev cX0_jumpTo : ByteArray := prog_2_method_4_code
def yX0_jumpTo : MethodName := ⟨RX0, "jumpTo", "(II)V"⟩
abbrev cX0_layBody : ByteArray := prog_2_method_5_code
def yX0_layBody : MethodName := ⟨RX0, "layBody", "(LPlainJava$Statement;)V"⟩
abbrev cX0_layRow : ByteArray := prog_2_method_6_code
def yX0_layRow : MethodName := ⟨RX0, "layRow", "(LPlainJava$Statement;)V"⟩
abbrev cX0_layStatement : ByteArray := prog_2_method_7_code
def yX0_layStatement : MethodName := ⟨RX0, "layStatement", "(LPlainJava$Statement;)V"⟩
abbrev cX0_layInner : ByteArray := prog_2_method_8_code
def yX0_layInner : MethodName := ⟨RX0, "layInner", "(LPlainJava$Statement;)V"⟩
abbrev cX0_layInside : ByteArray := prog_2_method_9_code
def yX0_layInside : MethodName := ⟨RX0, "layInside", "(LPlainJava$Statement;)V"⟩
abbrev cX0_layTold : ByteArray := prog_2_method_10_code
def yX0_layTold : MethodName := ⟨RX0, "layTold", "(LPlainJava$Statement;)V"⟩
abbrev cX0_layIf : ByteArray := prog_2_method_11_code
def yX0_layIf : MethodName := ⟨RX0, "layIf", "(LPlainJava$Statement;)V"⟩
abbrev cX0_layWhile : ByteArray := prog_2_method_12_code
def yX0_layWhile : MethodName := ⟨RX0, "layWhile", "(LPlainJava$Statement;)V"⟩
abbrev cX0_layDo : ByteArray := prog_2_method_13_code
def yX0_layDo : MethodName := ⟨RX0, "layDo", "(LPlainJava$Statement;)V"⟩
abbrev cX0_layFor : ByteArray := prog_2_method_14_code
def yX0_layFor : MethodName := ⟨RX0, "layFor", "(LPlainJava$Statement;)V"⟩
abbrev cX0_layTry : ByteArray := prog_2_method_15_code
def yX0_layTry : MethodName := ⟨RX0, "layTry", "(LPlainJava$Statement;)V"⟩
abbrev cX0_layExp : ByteArray := prog_2_method_16_code
def yX0_layExp : MethodName := ⟨RX0, "layExp", "(LPlainJava$Exp;)V"⟩
abbrev cX0_layOne : ByteArray := prog_2_method_17_code
def yX0_layOne : MethodName := ⟨RX0, "layOne", "(LPlainJava$Exp;)V"⟩
abbrev cX1_init : ByteArray := prog_3_method_1_code
def yX1_init : MethodName := ⟨RX1, "<init>", "(IIII)V"⟩
abbrev cX1_acts : ByteArray := prog_3_method_2_code
def yX1_acts : MethodName := ⟨RX1, "acts", "()Z"⟩
abbrev cX2_init : ByteArray := prog_4_method_1_code
def yX2_init : MethodName := ⟨RX2, "<init>", "(LPlainJava$Program;)V"⟩
abbrev cX2_reachAll : ByteArray := prog_4_method_2_code
def yX2_reachAll : MethodName := ⟨RX2, "reachAll", "(LPlainJava$Program;)V"⟩
abbrev cX2_reachRow : ByteArray := prog_4_method_3_code
def yX2_reachRow : MethodName := ⟨RX2, "reachRow", "(LPlainJava$Statement;)Z"⟩
abbrev cX2_reach : ByteArray := prog_4_method_4_code
def yX2_reach : MethodName := ⟨RX2, "reach", "(LPlainJava$Statement;Z)Z"⟩
abbrev cX2_reachInside : ByteArray := prog_4_method_5_code
def yX2_reachInside : MethodName := ⟨RX2, "reachInside", "(LPlainJava$Statement;)Z"⟩
abbrev cX2_reachBody : ByteArray := prog_4_method_6_code
def yX2_reachBody : MethodName := ⟨RX2, "reachBody", "(LPlainJava$Statement;Z)Z"⟩
abbrev cX2_reachSwitch : ByteArray := prog_4_method_7_code
def yX2_reachSwitch : MethodName := ⟨RX2, "reachSwitch", "(LPlainJava$Statement;)Z"⟩
abbrev cX2_reachTry : ByteArray := prog_4_method_8_code
def yX2_reachTry : MethodName := ⟨RX2, "reachTry", "(LPlainJava$Statement;)Z"⟩
abbrev cX2_markTarget : ByteArray := prog_4_method_9_code
def yX2_markTarget : MethodName := ⟨RX2, "markTarget", "(LPlainJava$Statement;)V"⟩
abbrev cX2_assignAll : ByteArray := prog_4_method_10_code
def yX2_assignAll : MethodName := ⟨RX2, "assignAll", "(LPlainJava$Program;)V"⟩
abbrev cX2_assign : ByteArray := prog_4_method_11_code
def yX2_assign : MethodName := ⟨RX2, "assign", "(LPlainJava$Statement;J)J"⟩
abbrev cX2_assignRow : ByteArray := prog_4_method_12_code
def yX2_assignRow : MethodName := ⟨RX2, "assignRow", "(LPlainJava$Statement;J)J"⟩
abbrev cX2_assignBody : ByteArray := prog_4_method_13_code
def yX2_assignBody : MethodName := ⟨RX2, "assignBody", "(LPlainJava$Statement;J)J"⟩
abbrev cX2_behind : ByteArray := prog_4_method_14_code
def yX2_behind : MethodName := ⟨RX2, "behind", "(LPlainJava$Statement;J)J"⟩
abbrev cX2_behindTold : ByteArray := prog_4_method_15_code
def yX2_behindTold : MethodName := ⟨RX2, "behindTold", "(LPlainJava$Statement;J)J"⟩
abbrev cX2_leadTo : ByteArray := prog_4_method_16_code
def yX2_leadTo : MethodName := ⟨RX2, "leadTo", "(LPlainJava$Statement;J)V"⟩
abbrev cX2_behindIf : ByteArray := prog_4_method_17_code
def yX2_behindIf : MethodName := ⟨RX2, "behindIf", "(LPlainJava$Statement;J)J"⟩
abbrev cX2_behindLoop : ByteArray := prog_4_method_18_code
def yX2_behindLoop : MethodName := ⟨RX2, "behindLoop", "(LPlainJava$Statement;J)J"⟩
abbrev cX2_behindSwitch : ByteArray := prog_4_method_19_code
def yX2_behindSwitch : MethodName := ⟨RX2, "behindSwitch", "(LPlainJava$Statement;J)J"⟩
abbrev cX2_behindTry : ByteArray := prog_4_method_20_code
def yX2_behindTry : MethodName := ⟨RX2, "behindTry", "(LPlainJava$Statement;J)J"⟩
abbrev cX2_behindExp : ByteArray := prog_4_method_21_code
def yX2_behindExp : MethodName := ⟨RX2, "behindExp", "(LPlainJava$Exp;J)J"⟩
abbrev cX2_pass : ByteArray := prog_4_method_22_code
def yX2_pass : MethodName := ⟨RX2, "pass", "(LPlainJava$Exp;)V"⟩
abbrev cX2_fork : ByteArray := prog_4_method_23_code
def yX2_fork : MethodName := ⟨RX2, "fork", "(JJ)V"⟩
abbrev cX2_passElse : ByteArray := prog_4_method_24_code
def yX2_passElse : MethodName := ⟨RX2, "passElse", "()V"⟩
abbrev cX2_passChain : ByteArray := prog_4_method_25_code
def yX2_passChain : MethodName := ⟨RX2, "passChain", "(LPlainJava$Exp;)V"⟩
abbrev cX2_takeValue : ByteArray := prog_4_method_26_code
def yX2_takeValue : MethodName := ⟨RX2, "takeValue", "(LPlainJava$Exp;)V"⟩
abbrev cX2_join : ByteArray := prog_4_method_27_code
def yX2_join : MethodName := ⟨RX2, "join", "(LPlainJava$Exp;J)V"⟩
abbrev cX2_toAside : ByteArray := prog_4_method_28_code
def yX2_toAside : MethodName := ⟨RX2, "toAside", "(J)V"⟩
abbrev cX2_fromAside : ByteArray := prog_4_method_29_code
def yX2_fromAside : MethodName := ⟨RX2, "fromAside", "()J"⟩
abbrev cX3_init : ByteArray := prog_5_method_1_code
def yX3_init : MethodName := ⟨RX3, "<init>", "(LPlainJava$Program;)V"⟩
abbrev cX3_judgeProgram : ByteArray := prog_5_method_2_code
def yX3_judgeProgram : MethodName := ⟨RX3, "judgeProgram", "(LPlainJava$Program;)V"⟩
abbrev cX3_judgeMethod : ByteArray := prog_5_method_3_code
def yX3_judgeMethod : MethodName := ⟨RX3, "judgeMethod", "(I)V"⟩
abbrev cX3_variableOf : ByteArray := prog_5_method_4_code
def yX3_variableOf : MethodName := ⟨RX3, "variableOf", "(LPlainJava$Exp;)LPlainJava$Variable;"⟩
abbrev cX3_isFaulty : ByteArray := prog_5_method_5_code
def yX3_isFaulty : MethodName := ⟨RX3, "isFaulty", "(LPlainJava$Exp;)Z"⟩
abbrev cX3_judgeExp : ByteArray := prog_5_method_6_code
def yX3_judgeExp : MethodName := ⟨RX3, "judgeExp", "(LPlainJava$Exp;)V"⟩
abbrev cX3_judgeNumber : ByteArray := prog_5_method_7_code
def yX3_judgeNumber : MethodName := ⟨RX3, "judgeNumber", "(LPlainJava$Exp;)V"⟩
abbrev cX3_judgeName : ByteArray := prog_5_method_8_code
def yX3_judgeName : MethodName := ⟨RX3, "judgeName", "(LPlainJava$Exp;)V"⟩
abbrev cX3_judgeOfOne : ByteArray := prog_5_method_9_code
def yX3_judgeOfOne : MethodName := ⟨RX3, "judgeOfOne", "(LPlainJava$Exp;)V"⟩
abbrev cX3_isTakenAlone : ByteArray := prog_5_method_10_code
def yX3_isTakenAlone : MethodName := ⟨RX3, "isTakenAlone", "(LPlainJava$Exp;I)Z"⟩
abbrev cX3_promoted : ByteArray := prog_5_method_11_code
def yX3_promoted : MethodName := ⟨RX3, "promoted", "(I)I"⟩
abbrev cX3_mayChange : ByteArray := prog_5_method_12_code
def yX3_mayChange : MethodName := ⟨RX3, "mayChange", "(LPlainJava$Exp;LPlainJava$Variable;)Z"⟩
abbrev cX3_judgeCount : ByteArray := prog_5_method_13_code
def yX3_judgeCount : MethodName := ⟨RX3, "judgeCount", "(LPlainJava$Exp;)V"⟩
abbrev cX3_judgeAssignment : ByteArray := prog_5_method_14_code
def yX3_judgeAssignment : MethodName := ⟨RX3, "judgeAssignment", "(LPlainJava$Exp;)V"⟩
abbrev cX3_isWanted : ByteArray := prog_5_method_15_code
def yX3_isWanted : MethodName := ⟨RX3, "isWanted", "(ZI)Z"⟩
abbrev cX3_areTaken : ByteArray := prog_5_method_16_code
def yX3_areTaken : MethodName := ⟨RX3, "areTaken", "(LPlainJava$Exp;ILPlainJava$Exp;)Z"⟩
abbrev cX3_isLogical : ByteArray := prog_5_method_17_code
def yX3_isLogical : MethodName := ⟨RX3, "isLogical", "(I)Z"⟩
abbrev cX3_takesBoth : ByteArray := prog_5_method_18_code
def yX3_takesBoth : MethodName := ⟨RX3, "takesBoth", "(I)Z"⟩
abbrev cX3_isLeftTaken : ByteArray := prog_5_method_19_code
def yX3_isLeftTaken : MethodName := ⟨RX3, "isLeftTaken", "(II)Z"⟩
abbrev cX3_isRightTaken : ByteArray := prog_5_method_20_code
def yX3_isRightTaken : MethodName := ⟨RX3, "isRightTaken", "(III)Z"⟩
abbrev cX3_workType : ByteArray := prog_5_method_21_code
def yX3_workType : MethodName := ⟨RX3, "workType", "(III)I"⟩
abbrev cX3_judgeChain : ByteArray := prog_5_method_22_code
def yX3_judgeChain : MethodName := ⟨RX3, "judgeChain", "(LPlainJava$Exp;)V"⟩
abbrev cX3_workedChain : ByteArray := prog_5_method_23_code
def yX3_workedChain : MethodName := ⟨RX3, "workedChain", "(LPlainJava$Exp;JJ)J"⟩
abbrev cX3_judgeChoice : ByteArray := prog_5_method_24_code
def yX3_judgeChoice : MethodName := ⟨RX3, "judgeChoice", "(LPlainJava$Exp;)V"⟩
abbrev cX3_choiceType : ByteArray := prog_5_method_25_code
def yX3_choiceType : MethodName := ⟨RX3, "choiceType", "(LPlainJava$Exp;LPlainJava$Exp;)I"⟩
abbrev cX3_isSmall : ByteArray := prog_5_method_26_code
def yX3_isSmall : MethodName := ⟨RX3, "isSmall", "(I)Z"⟩
abbrev cX3_isHeld : ByteArray := prog_5_method_27_code
def yX3_isHeld : MethodName := ⟨RX3, "isHeld", "(LPlainJava$Exp;I)Z"⟩
abbrev cX3_fits : ByteArray := prog_5_method_28_code
def yX3_fits : MethodName := ⟨RX3, "fits", "(LPlainJava$Exp;I)Z"⟩
abbrev cX3_judgeCall : ByteArray := prog_5_method_29_code
def yX3_judgeCall : MethodName := ⟨RX3, "judgeCall", "(LPlainJava$Exp;)V"⟩
abbrev cX3_calledMethod : ByteArray := prog_5_method_30_code
def yX3_calledMethod : MethodName := ⟨RX3, "calledMethod", "(LPlainJava$Exp;I)I"⟩
abbrev cX3_isNarrowest : ByteArray := prog_5_method_31_code
def yX3_isNarrowest : MethodName := ⟨RX3, "isNarrowest", "(LPlainJava$Method;JILPlainJava$Exp;)Z"⟩
abbrev cX3_judgeStore : ByteArray := prog_5_method_32_code
def yX3_judgeStore : MethodName := ⟨RX3, "judgeStore", "(LPlainJava$Exp;)V"⟩
abbrev cX3_judgeStatement : ByteArray := prog_5_method_33_code
def yX3_judgeStatement : MethodName := ⟨RX3, "judgeStatement", "(LPlainJava$Statement;)V"⟩
abbrev cX3_judgeSwitch : ByteArray := prog_5_method_34_code
def yX3_judgeSwitch : MethodName := ⟨RX3, "judgeSwitch", "(LPlainJava$Statement;)V"⟩
abbrev cX3_judgeCase : ByteArray := prog_5_method_35_code
def yX3_judgeCase : MethodName := ⟨RX3, "judgeCase", "(LPlainJava$Statement;LPlainJava$Statement;)V"⟩
abbrev cX3_judgeJump : ByteArray := prog_5_method_36_code
def yX3_judgeJump : MethodName := ⟨RX3, "judgeJump", "(LPlainJava$Statement;)V"⟩
abbrev cX3_isSameName : ByteArray := prog_5_method_37_code
def yX3_isSameName : MethodName := ⟨RX3, "isSameName", "(II)Z"⟩
abbrev cX3_judgeLabel : ByteArray := prog_5_method_38_code
def yX3_judgeLabel : MethodName := ⟨RX3, "judgeLabel", "(LPlainJava$Statement;)V"⟩
abbrev cX3_judgeReturn : ByteArray := prog_5_method_39_code
def yX3_judgeReturn : MethodName := ⟨RX3, "judgeReturn", "(LPlainJava$Statement;)V"⟩
abbrev cX4_init : ByteArray := prog_6_method_1_code
def yX4_init : MethodName := ⟨RX4, "<init>", "(LPlainJava$Code;)V"⟩
abbrev cX4_prepare : ByteArray := prog_6_method_2_code
def yX4_prepare : MethodName := ⟨RX4, "prepare", "([II)V"⟩
abbrev cX4_perform : ByteArray := prog_6_method_3_code
def yX4_perform : MethodName := ⟨RX4, "perform", "(LPlainJava$Method;[JI)I"⟩
abbrev cX4_report : ByteArray := prog_6_method_4_code
def yX4_report : MethodName := ⟨RX4, "report", "(I)J"⟩
abbrev cX4_push : ByteArray := prog_6_method_5_code
def yX4_push : MethodName := ⟨RX4, "push", "(J)V"⟩
abbrev cX4_pop : ByteArray := prog_6_method_6_code
def yX4_pop : MethodName := ⟨RX4, "pop", "()J"⟩
abbrev cX4_slot : ByteArray := prog_6_method_7_code
def yX4_slot : MethodName := ⟨RX4, "slot", "(I)I"⟩
abbrev cX4_step : ByteArray := prog_6_method_8_code
def yX4_step : MethodName := ⟨RX4, "step", "()Z"⟩
abbrev cX4_obey : ByteArray := prog_6_method_9_code
def yX4_obey : MethodName := ⟨RX4, "obey", "()V"⟩
abbrev cX4_work : ByteArray := prog_6_method_10_code
def yX4_work : MethodName := ⟨RX4, "work", "(ILPlainJava$Exp;)V"⟩
abbrev cX4_operate : ByteArray := prog_6_method_11_code
def yX4_operate : MethodName := ⟨RX4, "operate", "(LPlainJava$Exp;JJ)V"⟩
abbrev cX4_count : ByteArray := prog_6_method_12_code
def yX4_count : MethodName := ⟨RX4, "count", "(LPlainJava$Exp;)V"⟩
abbrev cX4_assign : ByteArray := prog_6_method_13_code
def yX4_assign : MethodName := ⟨RX4, "assign", "(LPlainJava$Exp;)V"⟩
abbrev cX4_call : ByteArray := prog_6_method_14_code
def yX4_call : MethodName := ⟨RX4, "call", "(LPlainJava$Exp;)V"⟩
abbrev cX4_tellNumber : ByteArray := prog_6_method_15_code
def yX4_tellNumber : MethodName := ⟨RX4, "tellNumber", "(J)V"⟩
abbrev cX4_enter : ByteArray := prog_6_method_16_code
def yX4_enter : MethodName := ⟨RX4, "enter", "(LPlainJava$Method;)V"⟩
abbrev cX4_leaveCall : ByteArray := prog_6_method_17_code
def yX4_leaveCall : MethodName := ⟨RX4, "leaveCall", "(J)V"⟩
abbrev cX4_move : ByteArray := prog_6_method_18_code
def yX4_move : MethodName := ⟨RX4, "move", "(II)V"⟩
abbrev cX4_control : ByteArray := prog_6_method_19_code
def yX4_control : MethodName := ⟨RX4, "control", "(ILPlainJava$Statement;)V"⟩
abbrev cX4_way : ByteArray := prog_6_method_20_code
def yX4_way : MethodName := ⟨RX4, "way", "(LPlainJava$Statement;)I"⟩
abbrev cX4_choose : ByteArray := prog_6_method_21_code
def yX4_choose : MethodName := ⟨RX4, "choose", "(LPlainJava$Statement;J)V"⟩
abbrev cX4_leave : ByteArray := prog_6_method_22_code
def yX4_leave : MethodName := ⟨RX4, "leave", "(IJLPlainJava$Statement;LPlainJava$Statement;)V"⟩
abbrev cX4_goInto : ByteArray := prog_6_method_23_code
def yX4_goInto : MethodName := ⟨RX4, "goInto", "(LPlainJava$Statement;)V"⟩
abbrev cX4_behindMethod : ByteArray := prog_6_method_24_code
def yX4_behindMethod : MethodName := ⟨RX4, "behindMethod", "(IJ)LPlainJava$Statement;"⟩
abbrev cX5_init : ByteArray := prog_7_method_1_code
def yX5_init : MethodName := ⟨RX5, "<init>", "(IJII)V"⟩
abbrev cX5_addParam : ByteArray := prog_7_method_2_code
def yX5_addParam : MethodName := ⟨RX5, "addParam", "(I)V"⟩
abbrev cX5_hasSameParams : ByteArray := prog_7_method_3_code
def yX5_hasSameParams : MethodName := ⟨RX5, "hasSameParams", "(LPlainJava$Method;)Z"⟩
abbrev cX5_isAsNarrowAs : ByteArray := prog_7_method_4_code
def yX5_isAsNarrowAs : MethodName := ⟨RX5, "isAsNarrowAs", "(LPlainJava$Method;)Z"⟩
abbrev cX5_takes : ByteArray := prog_7_method_5_code
def yX5_takes : MethodName := ⟨RX5, "takes", "(JILPlainJava$Exp;)Z"⟩
abbrev cX6_init : ByteArray := prog_8_method_1_code
def yX6_init : MethodName := ⟨RX6, "<init>", "()V"⟩
abbrev cX6_clear : ByteArray := prog_8_method_2_code
def yX6_clear : MethodName := ⟨RX6, "clear", "()V"⟩
abbrev cX6_tell : ByteArray := prog_8_method_3_code
def yX6_tell : MethodName := ⟨RX6, "tell", "(II)V"⟩
abbrev cX6_methodOf : ByteArray := prog_8_method_4_code
def yX6_methodOf : MethodName := ⟨RX6, "methodOf", "(I)LPlainJava$Method;"⟩
abbrev cX6_expAt : ByteArray := prog_8_method_5_code
def yX6_expAt : MethodName := ⟨RX6, "expAt", "(II)LPlainJava$Exp;"⟩
abbrev cX6_statementAt : ByteArray := prog_8_method_6_code
def yX6_statementAt : MethodName := ⟨RX6, "statementAt", "(I)LPlainJava$Statement;"⟩
abbrev cX7_init : ByteArray := prog_9_method_1_code
def yX7_init : MethodName := ⟨RX7, "<init>", "(LPlainJava$Program;)V"⟩
abbrev cX7_readProgram : ByteArray := prog_9_method_2_code
def yX7_readProgram : MethodName := ⟨RX7, "readProgram", "(LPlainJava$Program;[BI)I"⟩
abbrev cX7_faultPlace : ByteArray := prog_9_method_3_code
def yX7_faultPlace : MethodName := ⟨RX7, "faultPlace", "()I"⟩
abbrev cX7_code : ByteArray := prog_9_method_4_code
def yX7_code : MethodName := ⟨RX7, "code", "()I"⟩
abbrev cX7_codeBehind : ByteArray := prog_9_method_5_code
def yX7_codeBehind : MethodName := ⟨RX7, "codeBehind", "()I"⟩
abbrev cX7_raise : ByteArray := prog_9_method_6_code
def yX7_raise : MethodName := ⟨RX7, "raise", "(I)V"⟩
abbrev cX7_accept : ByteArray := prog_9_method_7_code
def yX7_accept : MethodName := ⟨RX7, "accept", "()V"⟩
abbrev cX7_expect : ByteArray := prog_9_method_8_code
def yX7_expect : MethodName := ⟨RX7, "expect", "(I)V"⟩
abbrev cX7_takes : ByteArray := prog_9_method_9_code
def yX7_takes : MethodName := ⟨RX7, "takes", "(I)Z"⟩
abbrev cX7_isTooDeep : ByteArray := prog_9_method_10_code
def yX7_isTooDeep : MethodName := ⟨RX7, "isTooDeep", "(I)Z"⟩
abbrev cX7_isType : ByteArray := prog_9_method_11_code
def yX7_isType : MethodName := ⟨RX7, "isType", "(I)Z"⟩
abbrev cX7_isAssign : ByteArray := prog_9_method_12_code
def yX7_isAssign : MethodName := ⟨RX7, "isAssign", "(I)Z"⟩
abbrev cX7_readMethod : ByteArray := prog_9_method_13_code
def yX7_readMethod : MethodName := ⟨RX7, "readMethod", "()V"⟩
abbrev cX7_readParams : ByteArray := prog_9_method_14_code
def yX7_readParams : MethodName := ⟨RX7, "readParams", "(LPlainJava$Method;)V"⟩
abbrev cX7_readType : ByteArray := prog_9_method_15_code
def yX7_readType : MethodName := ⟨RX7, "readType", "()I"⟩
abbrev cX7_declare : ByteArray := prog_9_method_16_code
def yX7_declare : MethodName := ⟨RX7, "declare", "(IZZ)I"⟩
abbrev cX7_know : ByteArray := prog_9_method_17_code
def yX7_know : MethodName := ⟨RX7, "know", "(I)V"⟩
abbrev cX7_lookUp : ByteArray := prog_9_method_18_code
def yX7_lookUp : MethodName := ⟨RX7, "lookUp", "(J)I"⟩
abbrev cX7_meant : ByteArray := prog_9_method_19_code
def yX7_meant : MethodName := ⟨RX7, "meant", "(I)I"⟩
abbrev cX7_readVariable : ByteArray := prog_9_method_20_code
def yX7_readVariable : MethodName := ⟨RX7, "readVariable", "(II)LPlainJava$Statement;"⟩
abbrev cX7_begin : ByteArray := prog_9_method_21_code
def yX7_begin : MethodName := ⟨RX7, "begin", "(II)LPlainJava$Statement;"⟩
abbrev cX7_readBody : ByteArray := prog_9_method_22_code
def yX7_readBody : MethodName := ⟨RX7, "readBody", "(I)LPlainJava$Statement;"⟩
abbrev cX7_readBlock : ByteArray := prog_9_method_23_code
def yX7_readBlock : MethodName := ⟨RX7, "readBlock", "(LPlainJava$Statement;I)V"⟩
abbrev cX7_readRow : ByteArray := prog_9_method_24_code
def yX7_readRow : MethodName := ⟨RX7, "readRow", "(IZ)LPlainJava$Statement;"⟩
abbrev cX7_readRowPart : ByteArray := prog_9_method_25_code
def yX7_readRowPart : MethodName := ⟨RX7, "readRowPart", "(IZZ)LPlainJava$Statement;"⟩
abbrev cX7_readCase : ByteArray := prog_9_method_26_code
def yX7_readCase : MethodName := ⟨RX7, "readCase", "(I)LPlainJava$Statement;"⟩
abbrev cX7_readInner : ByteArray := prog_9_method_27_code
def yX7_readInner : MethodName := ⟨RX7, "readInner", "(LPlainJava$Statement;I)LPlainJava$Statement;"⟩
abbrev cX7_readStatement : ByteArray := prog_9_method_28_code
def yX7_readStatement : MethodName := ⟨RX7, "readStatement", "(I)LPlainJava$Statement;"⟩
abbrev cX7_readSimple : ByteArray := prog_9_method_29_code
def yX7_readSimple : MethodName := ⟨RX7, "readSimple", "(I)LPlainJava$Statement;"⟩
abbrev cX7_readLabel : ByteArray := prog_9_method_30_code
def yX7_readLabel : MethodName := ⟨RX7, "readLabel", "(I)LPlainJava$Statement;"⟩
abbrev cX7_readExpStatement : ByteArray := prog_9_method_31_code
def yX7_readExpStatement : MethodName := ⟨RX7, "readExpStatement", "(I)LPlainJava$Statement;"⟩
abbrev cX7_readCondition : ByteArray := prog_9_method_32_code
def yX7_readCondition : MethodName := ⟨RX7, "readCondition", "(LPlainJava$Statement;I)V"⟩
abbrev cX7_readIf : ByteArray := prog_9_method_33_code
def yX7_readIf : MethodName := ⟨RX7, "readIf", "(I)LPlainJava$Statement;"⟩
abbrev cX7_readWhile : ByteArray := prog_9_method_34_code
def yX7_readWhile : MethodName := ⟨RX7, "readWhile", "(I)LPlainJava$Statement;"⟩
abbrev cX7_readDo : ByteArray := prog_9_method_35_code
def yX7_readDo : MethodName := ⟨RX7, "readDo", "(I)LPlainJava$Statement;"⟩
abbrev cX7_readFor : ByteArray := prog_9_method_36_code
def yX7_readFor : MethodName := ⟨RX7, "readFor", "(I)LPlainJava$Statement;"⟩
abbrev cX7_readForExps : ByteArray := prog_9_method_37_code
def yX7_readForExps : MethodName := ⟨RX7, "readForExps", "(I)LPlainJava$Statement;"⟩
abbrev cX7_readSwitch : ByteArray := prog_9_method_38_code
def yX7_readSwitch : MethodName := ⟨RX7, "readSwitch", "(I)LPlainJava$Statement;"⟩
abbrev cX7_readTry : ByteArray := prog_9_method_39_code
def yX7_readTry : MethodName := ⟨RX7, "readTry", "(I)LPlainJava$Statement;"⟩
abbrev cX7_put : ByteArray := prog_9_method_40_code
def yX7_put : MethodName := ⟨RX7, "put", "(LPlainJava$Exp;)LPlainJava$Exp;"⟩
abbrev cX7_opened : ByteArray := prog_9_method_41_code
def yX7_opened : MethodName := ⟨RX7, "opened", "(II)LPlainJava$Exp;"⟩
abbrev cX7_putMark : ByteArray := prog_9_method_42_code
def yX7_putMark : MethodName := ⟨RX7, "putMark", "(II)LPlainJava$Exp;"⟩
abbrev cX7_readExp : ByteArray := prog_9_method_43_code
def yX7_readExp : MethodName := ⟨RX7, "readExp", "(I)LPlainJava$Exp;"⟩
abbrev cX7_readAssignment : ByteArray := prog_9_method_44_code
def yX7_readAssignment : MethodName := ⟨RX7, "readAssignment", "(I)LPlainJava$Exp;"⟩
abbrev cX7_readChoice : ByteArray := prog_9_method_45_code
def yX7_readChoice : MethodName := ⟨RX7, "readChoice", "(I)LPlainJava$Exp;"⟩
abbrev cX7_readChain : ByteArray := prog_9_method_46_code
def yX7_readChain : MethodName := ⟨RX7, "readChain", "(I)LPlainJava$Exp;"⟩
abbrev cX7_waitingFor : ByteArray := prog_9_method_47_code
def yX7_waitingFor : MethodName := ⟨RX7, "waitingFor", "(ILPlainJava$Exp;LPlainJava$Exp;)LPlainJava$Exp;"⟩
abbrev cX7_closed : ByteArray := prog_9_method_48_code
def yX7_closed : MethodName := ⟨RX7, "closed", "(LPlainJava$Exp;LPlainJava$Exp;)LPlainJava$Exp;"⟩
abbrev cX7_readOperand : ByteArray := prog_9_method_49_code
def yX7_readOperand : MethodName := ⟨RX7, "readOperand", "(I)LPlainJava$Exp;"⟩
abbrev cX7_readInnerOperand : ByteArray := prog_9_method_50_code
def yX7_readInnerOperand : MethodName := ⟨RX7, "readInnerOperand", "(I)LPlainJava$Exp;"⟩
abbrev cX7_readAlone : ByteArray := prog_9_method_51_code
def yX7_readAlone : MethodName := ⟨RX7, "readAlone", "(I)LPlainJava$Exp;"⟩
abbrev cX7_readCountAhead : ByteArray := prog_9_method_52_code
def yX7_readCountAhead : MethodName := ⟨RX7, "readCountAhead", "()LPlainJava$Exp;"⟩
abbrev cX7_readBehindOpen : ByteArray := prog_9_method_53_code
def yX7_readBehindOpen : MethodName := ⟨RX7, "readBehindOpen", "(I)LPlainJava$Exp;"⟩
abbrev cX7_readName : ByteArray := prog_9_method_54_code
def yX7_readName : MethodName := ⟨RX7, "readName", "(I)LPlainJava$Exp;"⟩
abbrev cX7_readCall : ByteArray := prog_9_method_55_code
def yX7_readCall : MethodName := ⟨RX7, "readCall", "(I)LPlainJava$Exp;"⟩
abbrev cX7_readLiteral : ByteArray := prog_9_method_56_code
def yX7_readLiteral : MethodName := ⟨RX7, "readLiteral", "()LPlainJava$Exp;"⟩
abbrev cX8_init : ByteArray := prog_10_method_1_code
def yX8_init : MethodName := ⟨RX8, "<init>", "(IIILPlainJava$Statement;J)V"⟩
abbrev cX8_isLoop : ByteArray := prog_10_method_2_code
def yX8_isLoop : MethodName := ⟨RX8, "isLoop", "()Z"⟩
abbrev cX8_isPart : ByteArray := prog_10_method_3_code
def yX8_isPart : MethodName := ⟨RX8, "isPart", "()Z"⟩
abbrev cX8_hasFinallyAhead : ByteArray := prog_10_method_4_code
def yX8_hasFinallyAhead : MethodName := ⟨RX8, "hasFinallyAhead", "()Z"⟩
abbrev cX8_isCaught : ByteArray := prog_10_method_5_code
def yX8_isCaught : MethodName := ⟨RX8, "isCaught", "()Z"⟩
abbrev cX8_isAlways : ByteArray := prog_10_method_6_code
def yX8_isAlways : MethodName := ⟨RX8, "isAlways", "(I)Z"⟩
abbrev cX9_init : ByteArray := prog_11_method_1_code
def yX9_init : MethodName := ⟨RX9, "<init>", "()V"⟩
abbrev cX9_longerKey : ByteArray := prog_11_method_2_code
def yX9_longerKey : MethodName := ⟨RX9, "longerKey", "(JI)J"⟩
abbrev cX9_keyOf : ByteArray := prog_11_method_3_code
def yX9_keyOf : MethodName := ⟨RX9, "keyOf", "(Ljava/lang/String;)J"⟩
abbrev cX9_sort : ByteArray := prog_11_method_4_code
def yX9_sort : MethodName := ⟨RX9, "sort", "(I)I"⟩
abbrev cX9_cutText : ByteArray := prog_11_method_5_code
def yX9_cutText : MethodName := ⟨RX9, "cutText", "([BI)V"⟩
abbrev cX9_byteAt : ByteArray := prog_11_method_6_code
def yX9_byteAt : MethodName := ⟨RX9, "byteAt", "(I)I"⟩
abbrev cX9_behindBlanks : ByteArray := prog_11_method_7_code
def yX9_behindBlanks : MethodName := ⟨RX9, "behindBlanks", "(I)I"⟩
abbrev cX9_cutOne : ByteArray := prog_11_method_8_code
def yX9_cutOne : MethodName := ⟨RX9, "cutOne", "(I)I"⟩
abbrev cX9_isLetter : ByteArray := prog_11_method_9_code
def yX9_isLetter : MethodName := ⟨RX9, "isLetter", "(I)Z"⟩
abbrev cX9_isDigit : ByteArray := prog_11_method_10_code
def yX9_isDigit : MethodName := ⟨RX9, "isDigit", "(I)Z"⟩
abbrev cX9_cutName : ByteArray := prog_11_method_11_code
def yX9_cutName : MethodName := ⟨RX9, "cutName", "(I)I"⟩
abbrev cX9_cutNumber : ByteArray := prog_11_method_12_code
def yX9_cutNumber : MethodName := ⟨RX9, "cutNumber", "(I)I"⟩
abbrev cX9_cutCharacter : ByteArray := prog_11_method_13_code
def yX9_cutCharacter : MethodName := ⟨RX9, "cutCharacter", "(I)I"⟩
abbrev cX9_cutSign : ByteArray := prog_11_method_14_code
def yX9_cutSign : MethodName := ⟨RX9, "cutSign", "(I)I"⟩
abbrev cX9_standsThere : ByteArray := prog_11_method_15_code
def yX9_standsThere : MethodName := ⟨RX9, "standsThere", "(III)Z"⟩
abbrev cX10_init : ByteArray := prog_12_method_1_code
def yX10_init : MethodName := ⟨RX10, "<init>", "(IIZI)V"⟩
abbrev cX11_init : ByteArray := prog_1_method_1_code
def yX11_init : MethodName := ⟨RX11, "<init>", "()V"⟩
abbrev cX11_feed : ByteArray := prog_1_method_2_code
def yX11_feed : MethodName := ⟨RX11, "feed", "(IIIII)I"⟩
abbrev cX11_append : ByteArray := prog_1_method_3_code
def yX11_append : MethodName := ⟨RX11, "append", "(I)V"⟩
abbrev cX11_cut : ByteArray := prog_1_method_4_code
def yX11_cut : MethodName := ⟨RX11, "cut", "(I)I"⟩
abbrev cX11_read : ByteArray := prog_1_method_5_code
def yX11_read : MethodName := ⟨RX11, "read", "()I"⟩
abbrev cX11_place : ByteArray := prog_1_method_6_code
def yX11_place : MethodName := ⟨RX11, "place", "()I"⟩
abbrev cX11_judge : ByteArray := prog_1_method_7_code
def yX11_judge : MethodName := ⟨RX11, "judge", "()I"⟩
abbrev cX11_told : ByteArray := prog_1_method_8_code
def yX11_told : MethodName := ⟨RX11, "told", "(I)I"⟩
abbrev cX11_token : ByteArray := prog_1_method_9_code
def yX11_token : MethodName := ⟨RX11, "token", "(II)I"⟩
abbrev cX11_method : ByteArray := prog_1_method_10_code
def yX11_method : MethodName := ⟨RX11, "method", "(II)I"⟩
abbrev cX11_variable : ByteArray := prog_1_method_11_code
def yX11_variable : MethodName := ⟨RX11, "variable", "(II)I"⟩
abbrev cX11_means : ByteArray := prog_1_method_12_code
def yX11_means : MethodName := ⟨RX11, "means", "(I)I"⟩
abbrev cX11_type : ByteArray := prog_1_method_13_code
def yX11_type : MethodName := ⟨RX11, "type", "(II)I"⟩
abbrev cX11_constant : ByteArray := prog_1_method_14_code
def yX11_constant : MethodName := ⟨RX11, "constant", "(II)J"⟩
abbrev cX11_ends : ByteArray := prog_1_method_15_code
def yX11_ends : MethodName := ⟨RX11, "ends", "(I)I"⟩
abbrev cX11_assigned : ByteArray := prog_1_method_16_code
def yX11_assigned : MethodName := ⟨RX11, "assigned", "(II)I"⟩
abbrev cX11_argument : ByteArray := prog_1_method_17_code
def yX11_argument : MethodName := ⟨RX11, "argument", "(IJ)I"⟩
abbrev cX11_input : ByteArray := prog_1_method_18_code
def yX11_input : MethodName := ⟨RX11, "input", "(I)I"⟩
abbrev cX11_drain : ByteArray := prog_1_method_19_code
def yX11_drain : MethodName := ⟨RX11, "drain", "()I"⟩
abbrev cX11_run : ByteArray := prog_1_method_20_code
def yX11_run : MethodName := ⟨RX11, "run", "(II)I"⟩
abbrev cX11_ran : ByteArray := prog_1_method_21_code
def yX11_ran : MethodName := ⟨RX11, "ran", "(I)J"⟩
abbrev cX11_has : ByteArray := prog_1_method_22_code
def yX11_has : MethodName := ⟨RX11, "has", "(JI)Z"⟩
abbrev cX11_bit : ByteArray := prog_1_method_23_code
def yX11_bit : MethodName := ⟨RX11, "bit", "(I)J"⟩
abbrev cX11_isNumber : ByteArray := prog_1_method_24_code
def yX11_isNumber : MethodName := ⟨RX11, "isNumber", "(I)Z"⟩
abbrev cX11_sameOrWidens : ByteArray := prog_1_method_25_code
def yX11_sameOrWidens : MethodName := ⟨RX11, "sameOrWidens", "(II)Z"⟩
abbrev cX11_strength : ByteArray := prog_1_method_26_code
def yX11_strength : MethodName := ⟨RX11, "strength", "(I)I"⟩
abbrev cX11_operatorOf : ByteArray := prog_1_method_27_code
def yX11_operatorOf : MethodName := ⟨RX11, "operatorOf", "(I)I"⟩
abbrev cX11_isDivision : ByteArray := prog_1_method_28_code
def yX11_isDivision : MethodName := ⟨RX11, "isDivision", "(I)Z"⟩
abbrev cX11_narrowed : ByteArray := prog_1_method_29_code
def yX11_narrowed : MethodName := ⟨RX11, "narrowed", "(IJ)J"⟩
abbrev cX11_worked : ByteArray := prog_1_method_30_code
def yX11_worked : MethodName := ⟨RX11, "worked", "(IIJJ)J"⟩
abbrev cX11_shifted : ByteArray := prog_1_method_31_code
def yX11_shifted : MethodName := ⟨RX11, "shifted", "(IIJJ)J"⟩
abbrev cX11_compared : ByteArray := prog_1_method_32_code
def yX11_compared : MethodName := ⟨RX11, "compared", "(IJJ)Z"⟩
abbrev cX11_workedAlone : ByteArray := prog_1_method_33_code
def yX11_workedAlone : MethodName := ⟨RX11, "workedAlone", "(IIJ)J"⟩
abbrev cJx4a65c_init_da8c8 : ByteArray := prog_25_method_2_code
def yJx4a65c_init_da8c8 : MethodName := ⟨RJx4a65c, "<init>", "()V"⟩
abbrev cJx4a65c_size_8abf5 : ByteArray := prog_25_method_8_code
def yJx4a65c_size_8abf5 : MethodName := ⟨RJx4a65c, "size", "()I"⟩
abbrev cJx4a65c_get_915e3 : ByteArray := prog_25_method_20_code
def yJx4a65c_get_915e3 : MethodName := ⟨RJx4a65c, "get", "(I)Ljava/lang/Object;"⟩
abbrev cJx4a65c_add_9ea2d : ByteArray := prog_25_method_25_code
def yJx4a65c_add_9ea2d : MethodName := ⟨RJx4a65c, "add", "(Ljava/lang/Object;)Z"⟩
abbrev cJx4a65c_clear_da8c8 : ByteArray := prog_25_method_40_code
def yJx4a65c_clear_da8c8 : MethodName := ⟨RJx4a65c, "clear", "()V"⟩
abbrev cJ0_charAt_5068e : ByteArray := prog_19_method_56_code
def yJ0_charAt_5068e : MethodName := ⟨RJ0, "charAt", "(I)C"⟩
abbrev cJ0_length_8abf5 : ByteArray := prog_19_method_54_code
def yJ0_length_8abf5 : MethodName := ⟨RJ0, "length", "()I"⟩
abbrev cJx4a65c_elementData_915e3 : ByteArray := prog_25_method_18_code
def yJx4a65c_elementData_915e3 : MethodName := ⟨RJx4a65c, "elementData", "(I)Ljava/lang/Object;"⟩
abbrev cJx4a65c_add_72be8 : ByteArray := prog_25_method_24_code
def yJx4a65c_add_72be8 : MethodName := ⟨RJx4a65c, "add", "(Ljava/lang/Object;[Ljava/lang/Object;I)V"⟩
abbrev cJx4a65c_grow_92f84 : ByteArray := prog_25_method_6_code
def yJx4a65c_grow_92f84 : MethodName := ⟨RJx4a65c, "grow", "(I)[Ljava/lang/Object;"⟩
abbrev cJx4a65c_grow_d5877 : ByteArray := prog_25_method_7_code
def yJx4a65c_grow_d5877 : MethodName := ⟨RJx4a65c, "grow", "()[Ljava/lang/Object;"⟩
abbrev cJ7_copyOf_1904c : ByteArray := prog_26_method_119_code
def yJ7_copyOf_1904c : MethodName := ⟨RJ7, "copyOf", "([Ljava/lang/Object;I)[Ljava/lang/Object;"⟩
abbrev cJ7_copyOf_6403c : ByteArray := prog_26_method_120_code
def yJ7_copyOf_6403c : MethodName := ⟨RJ7, "copyOf", "([Ljava/lang/Object;ILjava/lang/Class;)[Ljava/lang/Object;"⟩
abbrev cJ15_checkIndex_7cf53 : ByteArray := prog_29_method_17_code
def yJ15_checkIndex_7cf53 : MethodName := ⟨RJ15, "checkIndex", "(II)I"⟩
abbrev cJ3_checkIndex_8e157 : ByteArray := prog_33_method_11_code
def yJ3_checkIndex_8e157 : MethodName := ⟨RJ3, "checkIndex", "(IILjava/util/function/BiFunction;)I"⟩
abbrev cJ8_newLength_cabcc : ByteArray := prog_32_method_27_code
def yJ8_newLength_cabcc : MethodName := ⟨RJ8, "newLength", "(III)I"⟩
abbrev cJxc12de_init_da8c8 : ByteArray := prog_24_method_1_code
def yJxc12de_init_da8c8 : MethodName := ⟨RJxc12de, "<init>", "()V"⟩
abbrev cJxa1e45_init_da8c8 : ByteArray := prog_23_method_1_code
def yJxa1e45_init_da8c8 : MethodName := ⟨RJxa1e45, "<init>", "()V"⟩
/-- the class's methods: name, bytes, locals, answer, how many arguments beside the object, the class, static -/
abbrev CmC : Type := MethodName × ByteArray × Nat × Option FieldType × Nat × Nat × Bool
def owC (i : Nat) : String := [RJx4a65c, RX0, RX1, RX2, RX3, RX4, RX5, RX6, RX7, RX8, RX9, RX10, RX11, "java/lang/String", "java/lang/Math", "java/lang/Object", "java/util/Arrays", "java/util/Objects", "jdk/internal/util/Preconditions", "jdk/internal/util/ArraysSupport", "java/util/AbstractList", "java/util/AbstractCollection", "[Ljava/lang/Object;"].getD i ""
def mtC : List CmC := [(yX0_init, cX0_init, 2, none, 1, 1, false), (yX0_lay, cX0_lay, 4, none, 1, 1, false), (yX0_put, cX0_put, 3, (some .int), 2, 1, false), (yX0_jumpTo, cX0_jumpTo, 3, none, 2, 1, false), (yX0_layBody, cX0_layBody, 2, none, 1, 1, false), (yX0_layRow, cX0_layRow, 3, none, 1, 1, false), (yX0_layStatement, cX0_layStatement, 3, none, 1, 1, false), (yX0_layInner, cX0_layInner, 2, none, 1, 1, false), (yX0_layInside, cX0_layInside, 2, none, 1, 1, false), (yX0_layTold, cX0_layTold, 2, none, 1, 1, false), (yX0_layIf, cX0_layIf, 4, none, 1, 1, false), (yX0_layWhile, cX0_layWhile, 4, none, 1, 1, false), (yX0_layDo, cX0_layDo, 4, none, 1, 1, false), (yX0_layFor, cX0_layFor, 6, none, 1, 1, false), (yX0_layTry, cX0_layTry, 3, none, 1, 1, false), (yX0_layExp, cX0_layExp, 3, none, 1, 1, false), (yX0_layOne, cX0_layOne, 2, none, 1, 1, false), (yX1_init, cX1_init, 5, none, 4, 2, false), (yX1_acts, cX1_acts, 1, (some .boolean), 0, 2, false), (yX2_init, cX2_init, 2, none, 1, 3, false), (yX2_reachAll, cX2_reachAll, 4, none, 1, 3, false), (yX2_reachRow, cX2_reachRow, 4, (some .boolean), 1, 3, false), (yX2_reach, cX2_reach, 3, (some .boolean), 2, 3, false), (yX2_reachInside, cX2_reachInside, 4, (some .boolean), 1, 3, false), (yX2_reachBody, cX2_reachBody, 3, (some .boolean), 2, 3, false), (yX2_reachSwitch, cX2_reachSwitch, 5, (some .boolean), 1, 3, false), (yX2_reachTry, cX2_reachTry, 4, (some .boolean), 1, 3, false), (yX2_markTarget, cX2_markTarget, 2, none, 1, 3, true), (yX2_assignAll, cX2_assignAll, 7, none, 1, 3, false), (yX2_assign, cX2_assign, 4, (some .long), 2, 3, false), (yX2_assignRow, cX2_assignRow, 7, (some .long), 2, 3, false), (yX2_assignBody, cX2_assignBody, 4, (some .long), 2, 3, false), (yX2_behind, cX2_behind, 6, (some .long), 2, 3, false), (yX2_behindTold, cX2_behindTold, 6, (some .long), 2, 3, false), (yX2_leadTo, cX2_leadTo, 7, none, 2, 3, false), (yX2_behindIf, cX2_behindIf, 8, (some .long), 2, 3, false), (yX2_behindLoop, cX2_behindLoop, 10, (some .long), 2, 3, false), (yX2_behindSwitch, cX2_behindSwitch, 10, (some .long), 2, 3, false), (yX2_behindTry, cX2_behindTry, 8, (some .long), 2, 3, false), (yX2_behindExp, cX2_behindExp, 5, (some .long), 2, 3, false), (yX2_pass, cX2_pass, 4, none, 1, 3, false), (yX2_fork, cX2_fork, 5, none, 2, 3, false), (yX2_passElse, cX2_passElse, 3, none, 0, 3, false), (yX2_passChain, cX2_passChain, 2, none, 1, 3, false), (yX2_takeValue, cX2_takeValue, 2, none, 1, 3, false), (yX2_join, cX2_join, 7, none, 2, 3, false), (yX2_toAside, cX2_toAside, 3, none, 1, 3, false), (yX2_fromAside, cX2_fromAside, 1, (some .long), 0, 3, false), (yX3_init, cX3_init, 2, none, 1, 4, false), (yX3_judgeProgram, cX3_judgeProgram, 3, none, 1, 4, false), (yX3_judgeMethod, cX3_judgeMethod, 5, none, 1, 4, false), (yX3_variableOf, cX3_variableOf, 2, (some (.object "PlainJava$Variable")), 1, 4, false), (yX3_isFaulty, cX3_isFaulty, 1, (some .boolean), 1, 4, true), (yX3_judgeExp, cX3_judgeExp, 2, none, 1, 4, false), (yX3_judgeNumber, cX3_judgeNumber, 6, none, 1, 4, false), (yX3_judgeName, cX3_judgeName, 3, none, 1, 4, false), (yX3_judgeOfOne, cX3_judgeOfOne, 3, none, 1, 4, false), (yX3_isTakenAlone, cX3_isTakenAlone, 2, (some .boolean), 2, 4, true), (yX3_promoted, cX3_promoted, 1, (some .int), 1, 4, true), (yX3_mayChange, cX3_mayChange, 3, (some .boolean), 2, 4, false), (yX3_judgeCount, cX3_judgeCount, 4, none, 1, 4, false), (yX3_judgeAssignment, cX3_judgeAssignment, 4, none, 1, 4, false), (yX3_isWanted, cX3_isWanted, 3, (some .boolean), 2, 4, false), (yX3_areTaken, cX3_areTaken, 4, (some .boolean), 3, 4, false), (yX3_isLogical, cX3_isLogical, 1, (some .boolean), 1, 4, true), (yX3_takesBoth, cX3_takesBoth, 1, (some .boolean), 1, 4, true), (yX3_isLeftTaken, cX3_isLeftTaken, 2, (some .boolean), 2, 4, true), (yX3_isRightTaken, cX3_isRightTaken, 3, (some .boolean), 3, 4, true), (yX3_workType, cX3_workType, 3, (some .int), 3, 4, true), (yX3_judgeChain, cX3_judgeChain, 4, none, 1, 4, false), (yX3_workedChain, cX3_workedChain, 5, (some .long), 3, 4, true), (yX3_judgeChoice, cX3_judgeChoice, 3, none, 1, 4, false), (yX3_choiceType, cX3_choiceType, 2, (some .int), 2, 4, true), (yX3_isSmall, cX3_isSmall, 1, (some .boolean), 1, 4, true), (yX3_isHeld, cX3_isHeld, 2, (some .boolean), 2, 4, true), (yX3_fits, cX3_fits, 2, (some .boolean), 2, 4, true), (yX3_judgeCall, cX3_judgeCall, 5, none, 1, 4, false), (yX3_calledMethod, cX3_calledMethod, 8, (some .int), 2, 4, false), (yX3_isNarrowest, cX3_isNarrowest, 8, (some .boolean), 4, 4, false), (yX3_judgeStore, cX3_judgeStore, 3, none, 1, 4, false), (yX3_judgeStatement, cX3_judgeStatement, 2, none, 1, 4, false), (yX3_judgeSwitch, cX3_judgeSwitch, 5, none, 1, 4, false), (yX3_judgeCase, cX3_judgeCase, 5, none, 2, 4, false), (yX3_judgeJump, cX3_judgeJump, 3, none, 1, 4, false), (yX3_isSameName, cX3_isSameName, 3, (some .boolean), 2, 4, false), (yX3_judgeLabel, cX3_judgeLabel, 3, none, 1, 4, false), (yX3_judgeReturn, cX3_judgeReturn, 3, none, 1, 4, false), (yX4_init, cX4_init, 2, none, 1, 5, false), (yX4_prepare, cX4_prepare, 3, none, 2, 5, false), (yX4_perform, cX4_perform, 6, (some .int), 3, 5, false), (yX4_report, cX4_report, 2, (some .long), 1, 5, false), (yX4_push, cX4_push, 3, none, 1, 5, false), (yX4_pop, cX4_pop, 1, (some .long), 0, 5, false), (yX4_slot, cX4_slot, 3, (some .int), 1, 5, false), (yX4_step, cX4_step, 1, (some .boolean), 0, 5, false), (yX4_obey, cX4_obey, 3, none, 0, 5, false), (yX4_work, cX4_work, 5, none, 2, 5, false), (yX4_operate, cX4_operate, 6, none, 3, 5, false), (yX4_count, cX4_count, 5, none, 1, 5, false), (yX4_assign, cX4_assign, 8, none, 1, 5, false), (yX4_call, cX4_call, 3, none, 1, 5, false), (yX4_tellNumber, cX4_tellNumber, 3, none, 1, 5, false), (yX4_enter, cX4_enter, 3, none, 1, 5, false), (yX4_leaveCall, cX4_leaveCall, 3, none, 1, 5, false), (yX4_move, cX4_move, 5, none, 2, 5, false), (yX4_control, cX4_control, 4, none, 2, 5, false), (yX4_way, cX4_way, 3, (some .int), 1, 5, false), (yX4_choose, cX4_choose, 5, none, 2, 5, false), (yX4_leave, cX4_leave, 9, none, 4, 5, false), (yX4_goInto, cX4_goInto, 2, none, 1, 5, false), (yX4_behindMethod, cX4_behindMethod, 4, (some (.object "PlainJava$Statement")), 2, 5, false), (yX5_init, cX5_init, 6, none, 4, 6, false), (yX5_addParam, cX5_addParam, 2, none, 1, 6, false), (yX5_hasSameParams, cX5_hasSameParams, 3, (some .boolean), 1, 6, false), (yX5_isAsNarrowAs, cX5_isAsNarrowAs, 3, (some .boolean), 1, 6, false), (yX5_takes, cX5_takes, 7, (some .boolean), 3, 6, false), (yX6_init, cX6_init, 1, none, 0, 7, false), (yX6_clear, cX6_clear, 1, none, 0, 7, false), (yX6_tell, cX6_tell, 4, none, 2, 7, false), (yX6_methodOf, cX6_methodOf, 2, (some (.object "PlainJava$Method")), 1, 7, false), (yX6_expAt, cX6_expAt, 5, (some (.object "PlainJava$Exp")), 2, 7, false), (yX6_statementAt, cX6_statementAt, 4, (some (.object "PlainJava$Statement")), 1, 7, false), (yX7_init, cX7_init, 2, none, 1, 8, false), (yX7_readProgram, cX7_readProgram, 5, (some .int), 3, 8, false), (yX7_faultPlace, cX7_faultPlace, 1, (some .int), 0, 8, false), (yX7_code, cX7_code, 1, (some .int), 0, 8, false), (yX7_codeBehind, cX7_codeBehind, 1, (some .int), 0, 8, false), (yX7_raise, cX7_raise, 2, none, 1, 8, false), (yX7_accept, cX7_accept, 1, none, 0, 8, false), (yX7_expect, cX7_expect, 2, none, 1, 8, false), (yX7_takes, cX7_takes, 2, (some .boolean), 1, 8, false), (yX7_isTooDeep, cX7_isTooDeep, 2, (some .boolean), 1, 8, false), (yX7_isType, cX7_isType, 1, (some .boolean), 1, 8, true), (yX7_isAssign, cX7_isAssign, 1, (some .boolean), 1, 8, true), (yX7_readMethod, cX7_readMethod, 4, none, 0, 8, false), (yX7_readParams, cX7_readParams, 7, none, 1, 8, false), (yX7_readType, cX7_readType, 2, (some .int), 0, 8, false), (yX7_declare, cX7_declare, 6, (some .int), 3, 8, false), (yX7_know, cX7_know, 2, none, 1, 8, false), (yX7_lookUp, cX7_lookUp, 4, (some .int), 1, 8, false), (yX7_meant, cX7_meant, 3, (some .int), 1, 8, false), (yX7_readVariable, cX7_readVariable, 7, (some (.object "PlainJava$Statement")), 2, 8, false), (yX7_begin, cX7_begin, 4, (some (.object "PlainJava$Statement")), 2, 8, false), (yX7_readBody, cX7_readBody, 3, (some (.object "PlainJava$Statement")), 1, 8, false), (yX7_readBlock, cX7_readBlock, 6, none, 2, 8, false), (yX7_readRow, cX7_readRow, 7, (some (.object "PlainJava$Statement")), 2, 8, false), (yX7_readRowPart, cX7_readRowPart, 5, (some (.object "PlainJava$Statement")), 3, 8, false), (yX7_readCase, cX7_readCase, 3, (some (.object "PlainJava$Statement")), 1, 8, false), (yX7_readInner, cX7_readInner, 5, (some (.object "PlainJava$Statement")), 2, 8, false), (yX7_readStatement, cX7_readStatement, 2, (some (.object "PlainJava$Statement")), 1, 8, false), (yX7_readSimple, cX7_readSimple, 3, (some (.object "PlainJava$Statement")), 1, 8, false), (yX7_readLabel, cX7_readLabel, 3, (some (.object "PlainJava$Statement")), 1, 8, false), (yX7_readExpStatement, cX7_readExpStatement, 3, (some (.object "PlainJava$Statement")), 1, 8, false), (yX7_readCondition, cX7_readCondition, 3, none, 2, 8, false), (yX7_readIf, cX7_readIf, 3, (some (.object "PlainJava$Statement")), 1, 8, false), (yX7_readWhile, cX7_readWhile, 3, (some (.object "PlainJava$Statement")), 1, 8, false), (yX7_readDo, cX7_readDo, 3, (some (.object "PlainJava$Statement")), 1, 8, false), (yX7_readFor, cX7_readFor, 6, (some (.object "PlainJava$Statement")), 1, 8, false), (yX7_readForExps, cX7_readForExps, 5, (some (.object "PlainJava$Statement")), 1, 8, false), (yX7_readSwitch, cX7_readSwitch, 6, (some (.object "PlainJava$Statement")), 1, 8, false), (yX7_readTry, cX7_readTry, 6, (some (.object "PlainJava$Statement")), 1, 8, false), (yX7_put, cX7_put, 2, (some (.object "PlainJava$Exp")), 1, 8, false), (yX7_opened, cX7_opened, 3, (some (.object "PlainJava$Exp")), 2, 8, false), (yX7_putMark, cX7_putMark, 3, (some (.object "PlainJava$Exp")), 2, 8, false), (yX7_readExp, cX7_readExp, 2, (some (.object "PlainJava$Exp")), 1, 8, false), (yX7_readAssignment, cX7_readAssignment, 4, (some (.object "PlainJava$Exp")), 1, 8, false), (yX7_readChoice, cX7_readChoice, 7, (some (.object "PlainJava$Exp")), 1, 8, false), (yX7_readChain, cX7_readChain, 7, (some (.object "PlainJava$Exp")), 1, 8, false), (yX7_waitingFor, cX7_waitingFor, 5, (some (.object "PlainJava$Exp")), 3, 8, false), (yX7_closed, cX7_closed, 3, (some (.object "PlainJava$Exp")), 2, 8, false), (yX7_readOperand, cX7_readOperand, 2, (some (.object "PlainJava$Exp")), 1, 8, false), (yX7_readInnerOperand, cX7_readInnerOperand, 2, (some (.object "PlainJava$Exp")), 1, 8, false), (yX7_readAlone, cX7_readAlone, 3, (some (.object "PlainJava$Exp")), 1, 8, false), (yX7_readCountAhead, cX7_readCountAhead, 2, (some (.object "PlainJava$Exp")), 0, 8, false), (yX7_readBehindOpen, cX7_readBehindOpen, 5, (some (.object "PlainJava$Exp")), 1, 8, false), (yX7_readName, cX7_readName, 5, (some (.object "PlainJava$Exp")), 1, 8, false), (yX7_readCall, cX7_readCall, 5, (some (.object "PlainJava$Exp")), 1, 8, false), (yX7_readLiteral, cX7_readLiteral, 3, (some (.object "PlainJava$Exp")), 0, 8, false), (yX8_init, cX8_init, 7, none, 5, 9, false), (yX8_isLoop, cX8_isLoop, 1, (some .boolean), 0, 9, false), (yX8_isPart, cX8_isPart, 1, (some .boolean), 0, 9, false), (yX8_hasFinallyAhead, cX8_hasFinallyAhead, 1, (some .boolean), 0, 9, false), (yX8_isCaught, cX8_isCaught, 1, (some .boolean), 0, 9, false), (yX8_isAlways, cX8_isAlways, 2, (some .boolean), 1, 9, false), (yX9_init, cX9_init, 4, none, 0, 10, false), (yX9_longerKey, cX9_longerKey, 4, (some .long), 2, 10, true), (yX9_keyOf, cX9_keyOf, 4, (some .long), 1, 10, true), (yX9_sort, cX9_sort, 3, (some .int), 1, 10, false), (yX9_cutText, cX9_cutText, 6, none, 2, 10, false), (yX9_byteAt, cX9_byteAt, 2, (some .int), 1, 10, false), (yX9_behindBlanks, cX9_behindBlanks, 5, (some .int), 1, 10, false), (yX9_cutOne, cX9_cutOne, 3, (some .int), 1, 10, false), (yX9_isLetter, cX9_isLetter, 1, (some .boolean), 1, 10, true), (yX9_isDigit, cX9_isDigit, 1, (some .boolean), 1, 10, true), (yX9_cutName, cX9_cutName, 6, (some .int), 1, 10, false), (yX9_cutNumber, cX9_cutNumber, 5, (some .int), 1, 10, false), (yX9_cutCharacter, cX9_cutCharacter, 3, (some .int), 1, 10, false), (yX9_cutSign, cX9_cutSign, 6, (some .int), 1, 10, false), (yX9_standsThere, cX9_standsThere, 5, (some .boolean), 3, 10, false), (yX10_init, cX10_init, 5, none, 4, 11, false), (yX11_init, cX11_init, 1, none, 0, 12, false), (yX11_feed, cX11_feed, 6, (some .int), 5, 12, false), (yX11_append, cX11_append, 3, none, 1, 12, false), (yX11_cut, cX11_cut, 2, (some .int), 1, 12, false), (yX11_read, cX11_read, 3, (some .int), 0, 12, false), (yX11_place, cX11_place, 1, (some .int), 0, 12, false), (yX11_judge, cX11_judge, 1, (some .int), 0, 12, false), (yX11_told, cX11_told, 2, (some .int), 1, 12, false), (yX11_token, cX11_token, 4, (some .int), 2, 12, false), (yX11_method, cX11_method, 4, (some .int), 2, 12, false), (yX11_variable, cX11_variable, 4, (some .int), 2, 12, false), (yX11_means, cX11_means, 3, (some .int), 1, 12, false), (yX11_type, cX11_type, 4, (some .int), 2, 12, false), (yX11_constant, cX11_constant, 4, (some .long), 2, 12, false), (yX11_ends, cX11_ends, 3, (some .int), 1, 12, false), (yX11_assigned, cX11_assigned, 4, (some .int), 2, 12, false), (yX11_argument, cX11_argument, 4, (some .int), 2, 12, false), (yX11_input, cX11_input, 2, (some .int), 1, 12, false), (yX11_drain, cX11_drain, 2, (some .int), 0, 12, false), (yX11_run, cX11_run, 3, (some .int), 2, 12, false), (yX11_ran, cX11_ran, 2, (some .long), 1, 12, false), (yX11_has, cX11_has, 3, (some .boolean), 2, 12, true), (yX11_bit, cX11_bit, 1, (some .long), 1, 12, true), (yX11_isNumber, cX11_isNumber, 1, (some .boolean), 1, 12, true), (yX11_sameOrWidens, cX11_sameOrWidens, 3, (some .boolean), 2, 12, true), (yX11_strength, cX11_strength, 1, (some .int), 1, 12, true), (yX11_operatorOf, cX11_operatorOf, 2, (some .int), 1, 12, true), (yX11_isDivision, cX11_isDivision, 1, (some .boolean), 1, 12, true), (yX11_narrowed, cX11_narrowed, 3, (some .long), 2, 12, true), (yX11_worked, cX11_worked, 6, (some .long), 4, 12, true), (yX11_shifted, cX11_shifted, 8, (some .long), 4, 12, true), (yX11_compared, cX11_compared, 5, (some .boolean), 3, 12, true), (yX11_workedAlone, cX11_workedAlone, 4, (some .long), 3, 12, true), (yJx4a65c_init_da8c8, cJx4a65c_init_da8c8, 1, none, 0, 0, false), (yJx4a65c_size_8abf5, cJx4a65c_size_8abf5, 1, (some .int), 0, 0, false), (yJx4a65c_get_915e3, cJx4a65c_get_915e3, 2, (some (.object "java/lang/Object")), 1, 0, false), (yJx4a65c_add_9ea2d, cJx4a65c_add_9ea2d, 2, (some .boolean), 1, 0, false), (yJx4a65c_clear_da8c8, cJx4a65c_clear_da8c8, 4, none, 0, 0, false), (yJ0_charAt_5068e, cJ0_charAt_5068e, 2, (some .char), 1, 13, false), (yJ0_length_8abf5, cJ0_length_8abf5, 1, (some .int), 0, 13, false), (Lib.Math.min.name, Lib.Math.min.code, 2, some .int, 2, 14, true), (yJx4a65c_elementData_915e3, cJx4a65c_elementData_915e3, 2, (some (.object "java/lang/Object")), 1, 0, false), (yJx4a65c_add_72be8, cJx4a65c_add_72be8, 4, none, 3, 0, false), (yJx4a65c_grow_92f84, cJx4a65c_grow_92f84, 4, (some (.array (.object "java/lang/Object"))), 1, 0, false), (yJx4a65c_grow_d5877, cJx4a65c_grow_d5877, 1, (some (.array (.object "java/lang/Object"))), 0, 0, false), (yJ7_copyOf_1904c, cJ7_copyOf_1904c, 2, (some (.array (.object "java/lang/Object"))), 2, 16, true), (yJ7_copyOf_6403c, cJ7_copyOf_6403c, 4, (some (.array (.object "java/lang/Object"))), 3, 16, true), (yJ15_checkIndex_7cf53, cJ15_checkIndex_7cf53, 2, (some .int), 2, 17, true), (yJ3_checkIndex_8e157, cJ3_checkIndex_8e157, 3, (some .int), 3, 18, true), (yJ8_newLength_cabcc, cJ8_newLength_cabcc, 4, (some .int), 3, 19, true), (yJxc12de_init_da8c8, cJxc12de_init_da8c8, 1, none, 0, 20, false), (yJxa1e45_init_da8c8, cJxa1e45_init_da8c8, 1, none, 0, 21, false), (Lib.Math.max.name, Lib.Math.max.code, 2, some .int, 2, 14, true)]
def mlC : List (Nat × Nat × Nat) := [(0, 1, 250), (0, 66, 245), (0, 69, 243), (0, 73, 249), (0, 79, 252), (0, 118, 247), (0, 123, 241), (0, 129, 244), (0, 131, 242), (1, 30, 178), (1, 51, 234), (1, 56, 235), (1, 65, 4), (1, 69, 2), (1, 77, 5), (1, 83, 6), (1, 92, 180), (1, 96, 8), (1, 102, 7), (1, 105, 9), (1, 111, 15), (1, 115, 10), (1, 118, 11), (1, 121, 12), (1, 124, 13), (1, 127, 14), (1, 136, 3), (1, 152, 16), (3, 25, 234), (3, 31, 235), (3, 41, 21), (3, 52, 118), (3, 59, 22), (3, 76, 23), (3, 82, 24), (3, 91, 183), (3, 98, 25), (3, 101, 26), (3, 104, 27), (3, 114, 181), (3, 131, 29), (3, 139, 32), (3, 144, 30), (3, 147, 33), (3, 154, 39), (3, 160, 34), (3, 164, 31), (3, 170, 35), (3, 173, 36), (3, 176, 37), (3, 179, 38), (3, 208, 40), (3, 216, 41), (3, 220, 42), (3, 223, 47), (3, 227, 43), (3, 230, 44), (3, 234, 45), (3, 238, 46), (4, 17, 19), (4, 30, 234), (4, 36, 50), (4, 43, 235), (4, 57, 118), (4, 66, 53), (4, 75, 80), (4, 82, 20), (4, 85, 28), (4, 90, 119), (4, 98, 113), (4, 112, 54), (4, 115, 55), (4, 118, 56), (4, 121, 60), (4, 124, 69), (4, 127, 71), (4, 130, 61), (4, 133, 76), (4, 136, 79), (4, 156, 51), (4, 170, 52), (4, 174, 57), (4, 181, 58), (4, 197, 59), (4, 204, 75), (4, 207, 62), (4, 211, 63), (4, 215, 68), (4, 219, 66), (4, 223, 67), (4, 227, 64), (4, 230, 65), (4, 236, 70), (4, 247, 72), (4, 251, 73), (4, 254, 74), (4, 263, 77), (4, 282, 115), (4, 286, 78), (4, 290, 114), (4, 297, 81), (4, 300, 83), (4, 303, 86), (4, 306, 85), (4, 309, 18), (4, 317, 82), (4, 331, 179), (4, 334, 84), (5, 47, 240), (5, 97, 91), (5, 101, 94), (5, 105, 102), (5, 110, 95), (5, 133, 96), (5, 142, 108), (5, 149, 104), (5, 153, 105), (5, 165, 93), (5, 173, 92), (5, 181, 98), (5, 185, 97), (5, 189, 99), (5, 192, 100), (5, 215, 119), (5, 221, 101), (5, 235, 107), (5, 247, 106), (5, 251, 103), (5, 264, 182), (5, 273, 109), (5, 278, 181), (5, 284, 110), (6, 17, 178), (7, 11, 184), (7, 20, 233), (7, 38, 186), (7, 42, 111), (7, 52, 112), (7, 56, 237), (7, 70, 234), (7, 74, 235), (7, 92, 180), (8, 22, 117), (8, 25, 188), (8, 38, 125), (8, 42, 134), (8, 53, 127), (8, 57, 128), (8, 60, 132), (8, 68, 234), (8, 82, 111), (8, 85, 236), (8, 100, 135), (8, 104, 143), (8, 111, 129), (8, 114, 130), (8, 117, 136), (8, 123, 137), (8, 127, 138), (8, 130, 112), (8, 135, 199), (8, 138, 139), (8, 154, 235), (8, 161, 142), (8, 170, 164), (8, 186, 17), (8, 193, 161), (8, 197, 178), (8, 203, 144), (8, 207, 145), (8, 212, 131), (8, 215, 146), (8, 222, 147), (8, 225, 141), (8, 228, 149), (8, 234, 154), (8, 237, 155), (8, 240, 156), (8, 243, 157), (8, 246, 159), (8, 249, 160), (8, 252, 150), (8, 255, 126), (8, 258, 151), (8, 261, 152), (8, 264, 148), (8, 268, 153), (8, 274, 158), (8, 288, 162), (8, 292, 133), (8, 295, 165), (8, 298, 166), (8, 305, 140), (8, 308, 163), (8, 317, 167), (8, 323, 170), (8, 334, 169), (8, 338, 168), (8, 343, 172), (8, 346, 173), (8, 350, 174), (8, 353, 175), (8, 356, 177), (8, 359, 171), (8, 367, 176), (10, 37, 239), (10, 43, 238), (10, 47, 185), (10, 51, 240), (10, 63, 190), (10, 67, 191), (10, 70, 189), (10, 73, 192), (10, 77, 194), (10, 80, 193), (10, 83, 195), (10, 86, 196), (10, 89, 197), (10, 96, 198), (12, 23, 116), (12, 33, 122), (12, 42, 48), (12, 49, 0), (12, 56, 87), (12, 70, 202), (12, 74, 123), (12, 78, 124), (12, 86, 49), (12, 92, 1), (12, 99, 234), (12, 126, 187), (12, 130, 235), (12, 163, 120), (12, 179, 121), (12, 191, 221), (12, 198, 88), (12, 202, 89), (12, 206, 90), (12, 216, 228), (12, 220, 230), (12, 224, 231), (16, 300, 246), (16, 304, 240), (17, 105, 248), (19, 194, 252), (20, 1, 251)]
def flC : List (Nat × Nat × Nat) := [(0, 9, 1), (0, 48, 2), (0, 63, 0), (1, 11, 30), (1, 15, 31), (1, 20, 32), (1, 26, 33), (1, 33, 36), (1, 37, 35), (1, 41, 34), (1, 45, 211), (1, 62, 186), (1, 73, 289), (1, 76, 276), (1, 80, 290), (1, 86, 275), (1, 89, 272), (1, 99, 270), (1, 108, 279), (1, 130, 280), (1, 133, 277), (1, 140, 278), (1, 143, 63), (1, 146, 65), (1, 149, 213), (1, 155, 60), (1, 156, 70), (1, 160, 76), (1, 163, 77), (1, 166, 61), (2, 9, 67), (2, 15, 68), (2, 18, 60), (2, 21, 61), (2, 24, 62), (2, 27, 63), (2, 30, 66), (3, 9, 93), (3, 15, 90), (3, 19, 211), (3, 37, 186), (3, 45, 182), (3, 49, 180), (3, 56, 276), (3, 63, 275), (3, 66, 282), (3, 70, 271), (3, 73, 272), (3, 79, 270), (3, 85, 283), (3, 88, 277), (3, 95, 284), (3, 108, 278), (3, 111, 281), (3, 118, 273), (3, 121, 185), (3, 124, 184), (3, 135, 285), (3, 142, 286), (3, 150, 279), (3, 167, 287), (3, 182, 280), (3, 185, 288), (3, 188, 92), (3, 191, 91), (3, 194, 94), (3, 197, 63), (3, 202, 65), (3, 205, 213), (3, 212, 60), (3, 213, 61), (3, 233, 67), (3, 242, 70), (3, 249, 66), (3, 250, 68), (3, 251, 71), (4, 9, 121), (4, 20, 120), (4, 24, 211), (4, 40, 212), (4, 49, 334), (4, 53, 330), (4, 61, 213), (4, 70, 214), (4, 79, 217), (4, 94, 181), (4, 102, 180), (4, 103, 67), (4, 106, 68), (4, 109, 60), (4, 139, 61), (4, 146, 71), (4, 149, 62), (4, 160, 331), (4, 161, 335), (4, 164, 70), (4, 165, 336), (4, 166, 72), (4, 178, 69), (4, 193, 66), (4, 194, 332), (4, 201, 73), (4, 244, 74), (4, 260, 75), (4, 267, 182), (4, 268, 210), (4, 272, 303), (4, 278, 304), (4, 293, 270), (4, 294, 279), (4, 313, 276), (4, 321, 271), (4, 322, 275), (4, 324, 273), (4, 327, 281), (4, 330, 280), (5, 9, 150), (5, 15, 151), (5, 18, 152), (5, 22, 153), (5, 25, 154), (5, 28, 155), (5, 33, 156), (5, 37, 157), (5, 40, 159), (5, 43, 158), (5, 53, 160), (5, 57, 162), (5, 60, 163), (5, 63, 165), (5, 66, 166), (5, 69, 167), (5, 72, 168), (5, 75, 170), (5, 79, 169), (5, 82, 164), (5, 85, 185), (5, 90, 183), (5, 113, 182), (5, 118, 161), (5, 121, 34), (5, 126, 32), (5, 130, 30), (5, 139, 33), (5, 146, 31), (5, 157, 71), (5, 162, 67), (5, 169, 61), (5, 172, 68), (5, 199, 69), (5, 205, 66), (5, 208, 62), (5, 211, 35), (5, 224, 184), (5, 227, 186), (5, 231, 289), (5, 234, 271), (5, 239, 270), (5, 242, 281), (5, 244, 279), (5, 254, 272), (5, 257, 290), (5, 260, 276), (5, 261, 275), (5, 267, 273), (5, 270, 277), (5, 277, 280), (5, 281, 278), (6, 9, 183), (6, 20, 186), (6, 24, 180), (6, 28, 181), (6, 32, 182), (6, 35, 184), (6, 38, 185), (6, 45, 68), (6, 48, 75), (7, 12, 210), (7, 21, 211), (7, 25, 212), (7, 28, 213), (7, 31, 214), (7, 45, 215), (7, 50, 216), (7, 59, 217), (7, 63, 218), (7, 66, 300), (7, 80, 60), (7, 83, 62), (7, 86, 64), (7, 91, 271), (8, 9, 240), (8, 15, 210), (8, 21, 241), (8, 31, 242), (8, 35, 243), (8, 45, 244), (8, 48, 302), (8, 51, 300), (8, 64, 211), (8, 75, 304), (8, 79, 212), (8, 89, 303), (8, 92, 245), (8, 96, 246), (8, 108, 186), (8, 120, 185), (8, 142, 334), (8, 158, 330), (8, 165, 280), (8, 174, 279), (8, 180, 271), (8, 183, 63), (8, 189, 67), (8, 190, 72), (8, 200, 214), (8, 211, 276), (8, 219, 275), (8, 231, 270), (8, 271, 277), (8, 277, 278), (8, 280, 213), (8, 283, 65), (8, 286, 64), (8, 311, 76), (8, 314, 73), (8, 320, 74), (8, 329, 61), (8, 332, 75), (8, 342, 62), (8, 362, 60), (8, 363, 66), (8, 364, 69), (8, 370, 70), (8, 373, 71), (8, 376, 68), (9, 9, 280), (9, 17, 287), (9, 21, 288), (9, 24, 270), (9, 27, 271), (9, 30, 272), (9, 33, 273), (9, 37, 274), (9, 40, 278), (9, 43, 277), (9, 46, 276), (9, 49, 279), (9, 53, 70), (9, 59, 71), (10, 11, 300), (10, 15, 301), (10, 18, 302), (10, 21, 303), (10, 24, 304), (10, 28, 306), (10, 31, 307), (10, 57, 308), (10, 60, 305), (11, 7, 330), (11, 13, 331), (11, 16, 332), (11, 20, 333), (12, 9, 360), (12, 13, 361), (12, 17, 362), (12, 24, 363), (12, 28, 364), (12, 36, 365), (12, 43, 366), (12, 50, 367), (12, 59, 368), (12, 63, 371), (12, 67, 369), (12, 82, 372), (12, 89, 217), (12, 95, 211), (12, 104, 218), (12, 107, 210), (12, 111, 305), (12, 116, 212), (12, 119, 370), (12, 122, 300), (12, 124, 301), (12, 136, 180), (12, 139, 182), (12, 142, 185), (12, 145, 183), (12, 150, 330), (12, 151, 331), (12, 152, 332), (12, 155, 333), (12, 158, 302), (12, 160, 303), (12, 167, 68), (12, 172, 70), (12, 175, 71), (12, 183, 282), (12, 188, 274), (12, 195, 285), (20, 7, 0)]
def clC : List (Nat × Nat × Nat) := [(0, 7, 15), (1, 18, 2), (1, 24, 9), (1, 60, 6), (3, 35, 6), (3, 198, 2), (4, 15, 3), (4, 47, 11), (4, 64, 2), (4, 73, 9), (4, 88, 6), (5, 31, 9), (6, 15, 9), (7, 9, 10), (7, 18, 0), (7, 34, 6), (7, 78, 2), (7, 89, 9), (8, 73, 6), (8, 133, 11), (8, 166, 9), (8, 178, 2), (12, 21, 7), (12, 31, 8), (12, 40, 4), (12, 47, 1), (12, 54, 5), (12, 134, 6), (12, 148, 11), (16, 2, 15), (16, 110, 22)]
def llC : List (Nat × Nat × Int) := [(3, 158, (-1)), (4, 142, 9223372036854775807), (4, 144, 2147483647), (5, 116, (-1234567890123)), (5, 137, (-1)), (9, 15, (-1)), (10, 92, 10), (12, 170, (-1234567890123)), (12, 228, 63), (12, 230, 31), (12, 232, (-1))]
def ilC : List (Nat × Nat × Int) := [(5, 109, 100000000), (19, 200, 2147483639)]
def oiC : List (Nat × Nat) := [(1, 3), (2, 3), (3, 3), (4, 3), (5, 3), (6, 3), (7, 3), (8, 3), (9, 3), (10, 3), (11, 1), (12, 1), (21, 1)]
/-- static calls from class to class of the nest -/
def nlC : List (Nat × Nat × Nat) := [(8, 150, 221), (8, 146, 222), (8, 301, 226), (8, 326, 225), (4, 152, 228), (4, 189, 223), (4, 185, 232), (4, 233, 227), (4, 240, 229), (4, 257, 224), (6, 41, 224), (3, 127, 222), (3, 245, 221), (5, 93, 228), (5, 177, 232), (5, 195, 227), (5, 201, 229)]
/-- where texts are taken -/
def rlC : List (Nat × Nat × Nat) := [(10, 35, 0), (7, 36, 1), (7, 48, 2), (10, 94, 3)]
def txC : List String := ["boolean byte char int long void if else while do for switch case default break continue return throw try catch finally final true false", "out", "in", "( ) { } ; , : ? = += -= *= /= %= &= |= ^= <<= >>= >>>= || && | ^ & == != < <= > >= << >> >>> + - * / % ! ~ ++ --"]
def fnC : List (String × String) := [("modCount", "I"), ("elementData", "[Ljava/lang/Object;"), ("size", "I"), ("", ""), ("", ""), ("", ""), ("", ""), ("", ""), ("", ""), ("", ""), ("", ""), ("", ""), ("", ""), ("", ""), ("", ""), ("", ""), ("", ""), ("", ""), ("", ""), ("", ""), ("", ""), ("", ""), ("", ""), ("", ""), ("", ""), ("", ""), ("", ""), ("", ""), ("", ""), ("", ""), ("order", "[I"), ("target", "[I"), ("exp", "[LPlainJava$Exp;"), ("owner", "[LPlainJava$Statement;"), ("size", "I"), ("program", "LPlainJava$Program;"), ("current", "LPlainJava$Statement;"), ("", ""), ("", ""), ("", ""), ("", ""), ("", ""), ("", ""), ("", ""), ("", ""), ("", ""), ("", ""), ("", ""), ("", ""), ("", ""), ("", ""), ("", ""), ("", ""), ("", ""), ("", ""), ("", ""), ("", ""), ("", ""), ("", ""), ("", ""), ("kind", "I"), ("sign", "I"), ("first", "I"), ("start", "I"), ("last", "I"), ("number", "I"), ("name", "I"), ("link", "I"), ("type", "I"), ("work", "I"), ("isConstant", "Z"), ("value", "J"), ("a", "LPlainJava$Exp;"), ("b", "LPlainJava$Exp;"), ("c", "LPlainJava$Exp;"), ("next", "LPlainJava$Exp;"), ("mark", "LPlainJava$Exp;"), ("address", "I"), ("", ""), ("", ""), ("", ""), ("", ""), ("", ""), ("", ""), ("", ""), ("", ""), ("", ""), ("", ""), ("", ""), ("", ""), ("program", "LPlainJava$Program;"), ("whenTrue", "J"), ("whenFalse", "J"), ("aside", "[J"), ("asideCount", "I"), ("", ""), ("", ""), ("", ""), ("", ""), ("", ""), ("", ""), ("", ""), ("", ""), ("", ""), ("", ""), ("", ""), ("", ""), ("", ""), ("", ""), ("", ""), ("", ""), ("", ""), ("", ""), ("", ""), ("", ""), ("", ""), ("", ""), ("", ""), ("", ""), ("", ""), ("flow", "LPlainJava$Flow;"), ("program", "LPlainJava$Program;"), ("", ""), ("", ""), ("", ""), ("", ""), ("", ""), ("", ""), ("", ""), ("", ""), ("", ""), ("", ""), ("", ""), ("", ""), ("", ""), ("", ""), ("", ""), ("", ""), ("", ""), ("", ""), ("", ""), ("", ""), ("", ""), ("", ""), ("", ""), ("", ""), ("", ""), ("", ""), ("", ""), ("", ""), ("values", "[J"), ("stack", "[J"), ("floors", "[I"), ("returns", "[I"), ("ways", "[I"), ("carried", "[J"), ("goals", "[LPlainJava$Statement;"), ("numbers", "[J"), ("code", "LPlainJava$Code;"), ("inputs", "[I"), ("inputCount", "I"), ("at", "I"), ("top", "I"), ("calls", "I"), ("limit", "I"), ("steps", "I"), ("told", "I"), ("taken", "I"), ("latest", "I"), ("outcome", "I"), ("result", "J"), ("", ""), ("", ""), ("", ""), ("", ""), ("", ""), ("", ""), ("", ""), ("", ""), ("", ""), ("name", "I"), ("key", "J"), ("type", "I"), ("paramTypes", "[I"), ("firstVariable", "I"), ("params", "I"), ("body", "LPlainJava$Statement;"), ("", ""), ("", ""), ("", ""), ("", ""), ("", ""), ("", ""), ("", ""), ("", ""), ("", ""), ("", ""), ("", ""), ("", ""), ("", ""), ("", ""), ("", ""), ("", ""), ("", ""), ("", ""), ("", ""), ("", ""), ("", ""), ("", ""), ("", ""), ("tokens", "LPlainJava$Tokens;"), ("methods", "Ljava/util/ArrayList;"), ("variables", "Ljava/util/ArrayList;"), ("exps", "Ljava/util/ArrayList;"), ("statements", "Ljava/util/ArrayList;"), ("out", "LPlainJava$Method;"), ("in", "LPlainJava$Method;"), ("error", "I"), ("errorPlace", "I"), ("", ""), ("", ""), ("", ""), ("", ""), ("", ""), ("", ""), ("", ""), ("", ""), ("", ""), ("", ""), ("", ""), ("", ""), ("", ""), ("", ""), ("", ""), ("", ""), ("", ""), ("", ""), ("", ""), ("", ""), ("", ""), ("program", "LPlainJava$Program;"), ("tokens", "LPlainJava$Tokens;"), ("at", "I"), ("fault", "I"), ("place", "I"), ("known", "J"), ("around", "LPlainJava$Statement;"), ("", ""), ("", ""), ("", ""), ("", ""), ("", ""), ("", ""), ("", ""), ("", ""), ("", ""), ("", ""), ("", ""), ("", ""), ("", ""), ("", ""), ("", ""), ("", ""), ("", ""), ("", ""), ("", ""), ("", ""), ("", ""), ("", ""), ("", ""), ("kind", "I"), ("first", "I"), ("level", "I"), ("parent", "LPlainJava$Statement;"), ("known", "J"), ("next", "LPlainJava$Statement;"), ("body", "LPlainJava$Statement;"), ("other", "LPlainJava$Statement;"), ("last", "LPlainJava$Statement;"), ("exp", "LPlainJava$Exp;"), ("link", "I"), ("target", "LPlainJava$Statement;"), ("ends", "Z"), ("broken", "Z"), ("continued", "Z"), ("before", "J"), ("behind", "J"), ("breaks", "J"), ("continues", "J"), ("entry", "I"), ("exit", "I"), ("", ""), ("", ""), ("", ""), ("", ""), ("", ""), ("", ""), ("", ""), ("", ""), ("", ""), ("place", "[I"), ("size", "[I"), ("code", "[I"), ("meaning", "[I"), ("worth", "[J"), ("count", "I"), ("words", "[J"), ("text", "[B"), ("length", "I"), ("", ""), ("", ""), ("", ""), ("", ""), ("", ""), ("", ""), ("", ""), ("", ""), ("", ""), ("", ""), ("", ""), ("", ""), ("", ""), ("", ""), ("", ""), ("", ""), ("", ""), ("", ""), ("", ""), ("", ""), ("", ""), ("name", "I"), ("type", "I"), ("isFinal", "Z"), ("method", "I"), ("clashes", "Z"), ("isConstant", "Z"), ("value", "J"), ("", ""), ("", ""), ("", ""), ("", ""), ("", ""), ("", ""), ("", ""), ("", ""), ("", ""), ("", ""), ("", ""), ("", ""), ("", ""), ("", ""), ("", ""), ("", ""), ("", ""), ("", ""), ("", ""), ("", ""), ("", ""), ("", ""), ("", ""), ("tape", "[B"), ("inputs", "[I"), ("arguments", "[J"), ("program", "LPlainJava$Program;"), ("spare", "LPlainJava$Program;"), ("reader", "LPlainJava$Reader;"), ("judge", "LPlainJava$Judge;"), ("code", "LPlainJava$Code;"), ("machine", "LPlainJava$Machine;"), ("length", "I"), ("inputCount", "I"), ("place", "I"), ("hasRun", "Z"), ("", ""), ("", ""), ("", ""), ("", ""), ("", ""), ("", ""), ("", ""), ("", ""), ("", ""), ("", ""), ("", ""), ("", ""), ("", ""), ("", ""), ("", ""), ("", ""), ("", "")]
def ynC (μ : Nat) : MethodName := match mtC[μ]? with
  | some r => r.1
  | none => objectInit
def wcC (r : CmC) : Cond := .code r.1 r.2.1 r.2.2.1 r.2.2.2.1
def wiC (r : CmC) : Cond := .instanceMethod r.1
def wlC (r : CmC) : Cond := .selects (owC r.2.2.2.2.2.1) r.1 r.1
def wtC (r : CmC) : Cond := .static r.1
def winC : List CmC := mtC.filter (fun r => !r.2.2.2.2.2.2)
def wvC : List CmC := winC.filter (fun r => decide (r.1.name ≠ "<init>"))
def wstC : List CmC := mtC.filter (fun r => r.2.2.2.2.2.2)
def wmC (q : Nat × Nat × Nat) : Cond := .methodLink (owC q.1) q.2.1 (ynC q.2.2)
/-- the class that a field's link names -/
def fnmC (q : Nat × Nat × Nat) : String := match Nat.beq q.1 20 with
  | true => "java/util/AbstractList"
  | false => owC (q.2.2 / 30)
def wfC (q : Nat × Nat × Nat) : Cond := .fieldLink (owC q.1) q.2.1 (fnmC q) (fnC.getD q.2.2 ("", "")).1 (fnC.getD q.2.2 ("", "")).2
/-- static fields: class, entry, place -/
def zlC : List (Nat × Nat × Nat) := [(0, 39, 1000000), (12, 210, 1000001), (12, 213, 1000002)]
def wyC (q : Nat × Nat × Nat) : Cond := match q.2.2 with
  | 1000000 => .fieldLink (owC q.1) q.2.1 "java/util/ArrayList" "DEFAULTCAPACITY_EMPTY_ELEMENTDATA" "[Ljava/lang/Object;"
  | 1000001 => .fieldLink (owC q.1) q.2.1 "PlainJava" "STRENGTHS" "[I"
  | _ => .fieldLink (owC q.1) q.2.1 "PlainJava" "OPERATORS" "[I"
abbrev gcN : MethodName := ⟨"java/lang/Object", "getClass", "()Ljava/lang/Class;"⟩
abbrev acN : MethodName := ⟨"java/lang/System", "arraycopy", "(Ljava/lang/Object;ILjava/lang/Object;II)V"⟩
/-- what else is given -/
def weC : List Cond := [.initialized "java/util/Arrays", .initialized "java/util/Objects", .initialized "jdk/internal/util/Preconditions", .initialized "jdk/internal/util/ArraysSupport", .initialized "java/util/AbstractList", .initialized "java/util/AbstractCollection", .initialized "java/lang/System", .sameField "java/util/ArrayList" "java/util/AbstractList" "modCount" "I", .methodLink "java/util/Arrays" 86 gcN, .selects "[Ljava/lang/Object;" gcN gcN, .instanceMethod gcN, .native gcN, .methodLink "java/util/Arrays" 150 acN, .native acN, .static acN]
def wkC (q : Nat × Nat × Nat) : Cond := .classLink (owC q.1) q.2.1 (owC q.2.2)
def wjC (q : Nat × Nat × Int) : Cond := .constantLong (owC q.1) q.2.1 (Int64.ofInt q.2.2)
def wnC (q : Nat × Nat × Int) : Cond := .constant (owC q.1) q.2.1 (Int32.ofInt q.2.2)
def woC (q : Nat × Nat) : Cond := .methodLink (owC q.1) q.2 objectInit
def wzC (i : Nat) : List Cond := match vwCl[i]? with
  | some q => u_ws q.1 q.2.1 q.2.2
  | none => []
def wpC (i : Nat) : List Cond := [.initialized (owC i), .instantiable (owC i) (nfC i)]
def RJ1 : String := "java/lang/StringLatin1"
abbrev cJ0_coder_7d493 : ByteArray := prog_19_method_152_code
def yJ0_coder_7d493 : MethodName := ⟨RJ0, "coder", "()B"⟩
abbrev cJ0_isLatin1_aae02 : ByteArray := prog_19_method_154_code
def yJ0_isLatin1_aae02 : MethodName := ⟨RJ0, "isLatin1", "()Z"⟩
abbrev cJ0_checkIndex_df160 : ByteArray := prog_19_method_155_code
def yJ0_checkIndex_df160 : MethodName := ⟨RJ0, "checkIndex", "(II)V"⟩
abbrev cJ1_charAt_3b067 : ByteArray := prog_20_method_2_code
def yJ1_charAt_3b067 : MethodName := ⟨RJ1, "charAt", "([BI)C"⟩
set_option maxRecDepth 20000 in
def ww_coder : List Cond := .code yJ0_coder_7d493 cJ0_coder_7d493 1 (some .byte) :: ([Cond.fieldLink RJ0 38 "java/lang/String" "COMPACT_STRINGS" "Z", Cond.fieldLink RJ0 15 "java/lang/String" "coder" "B"] ++ (([] : List Cond)))
set_option maxRecDepth 20000 in
def ww_isLatin1 : List Cond := .code yJ0_isLatin1_aae02 cJ0_isLatin1_aae02 1 (some .boolean) :: ([Cond.fieldLink RJ0 38 "java/lang/String" "COMPACT_STRINGS" "Z", Cond.fieldLink RJ0 15 "java/lang/String" "coder" "B"] ++ (([] : List Cond)))
set_option maxRecDepth 20000 in
def ww_length : List Cond := .code yJ0_length_8abf5 cJ0_length_8abf5 1 (some .int) :: ([Cond.fieldLink RJ0 9 "java/lang/String" "value" "[B"] ++ (ww_coder ++ ((wsV RJ0 335 RJ0 yJ0_coder_7d493 ww_coder))))
set_option maxRecDepth 20000 in
def ww_pcheckN : List Cond := .code yJ3_checkIndex_8e157 cJ3_checkIndex_8e157 3 (some .int) :: ([] ++ (([] : List Cond)))
set_option maxRecDepth 20000 in
def ww_pcheckR : List Cond := .code yJ3_checkIndex_8e157 cJ3_checkIndex_8e157 3 (some .int) :: ([] ++ (([] : List Cond)))
set_option maxRecDepth 20000 in
def ww_scheck : List Cond := .code yJ0_checkIndex_df160 cJ0_checkIndex_df160 2 none :: ([Cond.fieldLink RJ0 1053 "jdk/internal/util/Preconditions" "SIOOBE_FORMATTER" "Ljava/util/function/BiFunction;"] ++ (ww_pcheckN ++ ((va_wsS RJ0 1059 yJ3_checkIndex_8e157 ww_pcheckN) ++ (ww_pcheckR ++ ((va_wsS RJ0 1059 yJ3_checkIndex_8e157 ww_pcheckR))))))
set_option maxRecDepth 20000 in
def ww_charAt1 : List Cond := .code yJ1_charAt_3b067 cJ1_charAt_3b067 2 (some .char) :: ([] ++ (ww_scheck ++ ((va_wsS RJ1 9 yJ0_checkIndex_df160 ww_scheck))))
set_option maxRecDepth 20000 in
def ww_charAt : List Cond := .code yJ0_charAt_5068e cJ0_charAt_5068e 2 (some .char) :: ([Cond.fieldLink RJ0 9 "java/lang/String" "value" "[B"] ++ (ww_isLatin1 ++ ((wsV RJ0 492 RJ0 yJ0_isLatin1_aae02 ww_isLatin1) ++ (ww_charAt1 ++ ((va_wsS RJ0 495 yJ1_charAt_3b067 ww_charAt1))))))
def wsC : List Cond := [.initialized "java/lang/StringLatin1"] ++ (ww_length ++ ww_charAt)
/-- all words of the class's methods -/
def cGC : List Cond := mtC.map wcC ++ (winC.map wiC ++ (wvC.map wlC ++ (wstC.map wtC ++ (mlC.map wmC ++ (flC.map wfC ++ (clC.map wkC ++ (llC.map wjC ++ (ilC.map wnC ++ (oiC.map woC ++ ((List.range 13).flatMap wzC ++ ((List.range 13).flatMap wpC ++ ([.initialized "java/lang/String", .initialized "java/lang/Math", .instanceMethod objectInit, .code objectInit ⟨#[0xb1]⟩ 1 none, .arrayClass .int, .arrayClass .byte, .arrayClass .long] ++ (zlC.map wyC ++ (weC ++ wsC))))))))))))))
def jlen : List Nat := [135, 3, 2, 112]
def jbyt : List (List Int32) := [[98, 111, 111, 108, 101, 97, 110, 32, 98, 121, 116, 101, 32, 99, 104, 97, 114, 32, 105, 110, 116, 32, 108, 111, 110, 103, 32, 118, 111, 105, 100, 32, 105, 102, 32, 101, 108, 115, 101, 32, 119, 104, 105, 108, 101, 32, 100, 111, 32, 102, 111, 114, 32, 115, 119, 105, 116, 99, 104, 32, 99, 97, 115, 101, 32, 100, 101, 102, 97, 117, 108, 116, 32, 98, 114, 101, 97, 107, 32, 99, 111, 110, 116, 105, 110, 117, 101, 32, 114, 101, 116, 117, 114, 110, 32, 116, 104, 114, 111, 119, 32, 116, 114, 121, 32, 99, 97, 116, 99, 104, 32, 102, 105, 110, 97, 108, 108, 121, 32, 102, 105, 110, 97, 108, 32, 116, 114, 117, 101, 32, 102, 97, 108, 115, 101], [111, 117, 116], [105, 110], [40, 32, 41, 32, 123, 32, 125, 32, 59, 32, 44, 32, 58, 32, 63, 32, 61, 32, 43, 61, 32, 45, 61, 32, 42, 61, 32, 47, 61, 32, 37, 61, 32, 38, 61, 32, 124, 61, 32, 94, 61, 32, 60, 60, 61, 32, 62, 62, 61, 32, 62, 62, 62, 61, 32, 124, 124, 32, 38, 38, 32, 124, 32, 94, 32, 38, 32, 61, 61, 32, 33, 61, 32, 60, 32, 60, 61, 32, 62, 32, 62, 61, 32, 60, 60, 32, 62, 62, 32, 62, 62, 62, 32, 43, 32, 45, 32, 42, 32, 47, 32, 37, 32, 33, 32, 126, 32, 43, 43, 32, 45, 45]]
/-- what is given beside the cells: texts, statics, links within the nest, classes of rows of references; ad has the constants from 1000000 on -/
def evC (ad : Nat → Nat) (A : Nat → Prop) (U : State) (H : Heap) : Prop :=
  (vk_S 4 jlen jbyt (fun i => ad (1000003 + i)) (fun i => ad (1000007 + i)) A U H ∧ va_Z "java/lang/String" "COMPACT_STRINGS" "Z" (.int 1) A U H ∧ va_Zq "jdk/internal/util/Preconditions" "SIOOBE_FORMATTER" "Ljava/util/function/BiFunction;" A U H) ∧
  (va_Z "java/util/ArrayList" "DEFAULTCAPACITY_EMPTY_ELEMENTDATA" "[Ljava/lang/Object;" (.ref (ad 1000000)) A U H ∧ va_T (.object "java/lang/Object") (ad 1000000) 0 (fun _ => .null) A U H) ∧
  (va_Z "PlainJava" "STRENGTHS" "[I" (.ref (ad 1000001)) A U H ∧ va_T .int (ad 1000001) 43 (fun j => .int (stvC.getD j 0)) A U H) ∧
  (va_Z "PlainJava" "OPERATORS" "[I" (.ref (ad 1000002)) A U H ∧ va_T .int (ad 1000002) 11 (fun j => .int (opvC.getD j 0)) A U H) ∧
  (va_AO "PlainJava$Exp" U ∧ va_AO "PlainJava$Statement" U ∧ va_AO "java/lang/Object" U ∧ ∀ c, (c = 2 ∨ c = 6 ∨ c = 9 ∨ c = 11) → va_Nw (.castable (owC c) "java/lang/Object") U) ∧
  (∀ q ∈ rlC, vk_R (owC q.1) q.2.1 (txC.getD q.2.2 "") (ad (1000003 + q.2.2)) U) ∧ (∀ q ∈ nlC, va_Nw (.methodLinkNest (owC q.1) q.2.1 (ynC q.2.2) "PlainJava") U) ∧ va_Mi "[Ljava/lang/Object;" (ad 1000011) U ∧ va_Dc U
theorem evC.call {ad : Nat → Nat} {A : Nat → Prop} {u U : State} {H : Heap} (hv : U.vm = u.vm) (h : evC ad A u H) : evC ad A U H := by sorry
theorem evC.pass {ad : Nat → Nat} {A B : Nat → Prop} {s U : State} {H : Heap} {locs : List Loc} (hW : s.WarmedH U.vm) (h : evC ad A s s.heap) (hS : va_S A s.heap H locs) (hF : ∀ q, B q → A q) : evC ad B U H := by sorry
theorem cG_c {μ : Nat} {r : CmC} (h : mtC[μ]? = some r) : wcC r ∈ cGC := by sorry
theorem cG_i {μ : Nat} {r : CmC} (h : mtC[μ]? = some r) (hs : r.2.2.2.2.2.2 = false) : wiC r ∈ cGC := by sorry
theorem cG_l {μ : Nat} {r : CmC} (h : mtC[μ]? = some r) (hs : r.2.2.2.2.2.2 = false) (hn : r.1.name ≠ "<init>") : wlC r ∈ cGC := by sorry
theorem cG_t {μ : Nat} {r : CmC} (h : mtC[μ]? = some r) (hs : r.2.2.2.2.2.2 = true) : wtC r ∈ cGC := by sorry
theorem cG_m {q : Nat × Nat × Nat} (h : q ∈ mlC) : wmC q ∈ cGC := by sorry
theorem cG_f {q : Nat × Nat × Nat} (h : q ∈ flC) : wfC q ∈ cGC := by sorry
theorem cG_k {q : Nat × Nat × Nat} (h : q ∈ clC) : wkC q ∈ cGC := by sorry
theorem cG_j {q : Nat × Nat × Int} (h : q ∈ llC) : wjC q ∈ cGC := by sorry
theorem cG_n {q : Nat × Nat × Int} (h : q ∈ ilC) : wnC q ∈ cGC := by sorry
theorem cG_o {q : Nat × Nat} (h : q ∈ oiC) : woC q ∈ cGC := by sorry
theorem cG_z {i : Nat} {C : String} {T : u_T} {n : Nat} (hi : i < 13) (h : vwCl[i]? = some (C, T, n)) {w : Cond} (hw : w ∈ u_ws C T n) : w ∈ cGC := by sorry
theorem cG_p {i : Nat} (hi : i < 13) {w : Cond} (hw : w ∈ wpC i) : w ∈ cGC := by sorry
theorem cG_e {w : Cond} (hw : w ∈ ([.initialized "java/lang/String", .initialized "java/lang/Math", .instanceMethod objectInit, .code objectInit ⟨#[0xb1]⟩ 1 none, .arrayClass .int, .arrayClass .byte, .arrayClass .long] : List Cond)) : w ∈ cGC := by sorry
theorem cG_y {q : Nat × Nat × Nat} (h : q ∈ zlC) : wyC q ∈ cGC := by sorry
theorem cG_w {w : Cond} (hw : w ∈ weC) : w ∈ cGC := by sorry
theorem cG_s {w : Cond} (hw : w ∈ wsC) : w ∈ cGC := by sorry
set_option maxRecDepth 100000 in
theorem cG_good : cGC.all goodWord = true := by sorry
set_option maxRecDepth 100000 in
theorem mtC_len : mtC.length = 253 := by sorry
theorem mtC_lt {μ : Nat} {r : CmC} (h : mtC[μ]? = some r) : μ < 253 := by sorry
set_option maxRecDepth 100000 in
theorem stC14 : ∀ μ, μ < 253 → ∀ r, mtC[μ]? = some r → r.2.2.2.2.2.2 = true → ¬ r.2.2.2.2.2.1 < 13 → r.2.2.2.2.2.1 = 14 ∨ (16 ≤ r.2.2.2.2.2.1 ∧ r.2.2.2.2.2.1 ≤ 19) := by sorry
set_option maxRecDepth 100000 in
theorem mtC_ok : ∀ μ, μ < 253 → ∀ r, mtC[μ]? = some r → r.1.cls = owC r.2.2.2.2.2.1 ∧ r.1.cls ≠ "java/lang/invoke/MethodHandle" ∧ r.1.cls ≠ "java/lang/invoke/VarHandle" ∧ (parseMethodDescriptor r.1.desc).map (fun d => d.parameters.length) = some r.2.2.2.2.1 ∧ r.2.2.1 ≤ 80 := by sorry
/-! locals and stack -/
def ctgC (v : AvC) : Nat := match v with
  | .inr (.inl _) => 2
  | _ => 1
theorem ctC_cat {ad : Nat → Nat} {v : AvC} : (cvC ad v).category = ctgC v := by sorry
theorem lkC_mem {ls : ClC} {i : Nat} {v : AvC} (h : lkC ls i = some v) : (i, v) ∈ ls := by sorry
def clmC (ad : Nat → Nat) (ls : ClC) : List (Nat × Value) := ls.map (fun q => (q.1, cvC ad q.2))
theorem clmC_at {ad : Nat → Nat} {ls : ClC} {a : Array Slot} {nL i : Nat} {v : AvC} (hl : lv_has a nL (clmC ad ls)) (hk : lkC ls i = some v) : a[i]? = some (.val (cvC ad v)) := by sorry
theorem dlC_eq1 {i : Nat} (ls : ClC) : dlC i i ls = ls.filter (fun q => !(q.1 == i) && !(q.1 + 1 == i && ctgC q.2 == 2)) := by sorry
theorem dlC_eq2 {i : Nat} (ls : ClC) : dlC i (i + 1) ls = ls.filter (fun q => !(q.1 == i) && (!(q.1 == i + 1) && !(q.1 + 1 == i && ctgC q.2 == 2))) := by sorry
theorem clmC_s1 {ad : Nat → Nat} {ls : ClC} {i : Nat} {v : AvC} : (i, cvC ad v) :: (clmC ad ls).filter (fun q => !(q.1 == i) && !(q.1 + 1 == i && q.2.category == 2)) = clmC ad (s1C ls i v) := by sorry
theorem clmC_s2 {ad : Nat → Nat} {ls : ClC} {i : Nat} {v : AvC} : (i, cvC ad v) :: (clmC ad ls).filter (fun q => !(q.1 == i) && (!(q.1 == i + 1) && !(q.1 + 1 == i && q.2.category == 2))) = clmC ad (s2C ls i v) := by sorry
theorem csC_cat {ad : Nat → Nat} {st : List AvC} : ((st.map (cvC ad)).map fun v => v.category).sum = csC st := by sorry
/-- the places of a call's arguments -/
def agC (i : Nat) : List AvC → ClC
  | [] => []
  | v :: r => (i, v) :: agC (if ctgC v = 2 then i + 2 else i + 1) r
theorem agC_eq {ad : Nat → Nat} (vs : List AvC) : ∀ i, clmC ad (agC i vs) = lv_args i (vs.map (cvC ad)) := by sorry
def lgC (vs : List AvC) : Nat := match vs with
  | [] => 0
  | v :: r => ctgC v + lgC r
theorem lgC_len {ad : Nat → Nat} (vs : List AvC) : (lg_sl (vs.map (cvC ad))).length = lgC vs := by sorry
/-! the world as a function of the state -/
def CwC (ad : Nat → Nat) (kA : Nat → ClassId) (σ : CsC) : va_W := (List.range (cnC σ)).map (fun a => (ad a, entC ad kA σ a))
theorem CwC_at {ad : Nat → Nat} {kA : Nat → ClassId} {σ : CsC} {a : Nat} (h : a < cnC σ) : (CwC ad kA σ)[a]? = some (ad a, entC ad kA σ a) := by sorry
theorem CwC_cr {ad : Nat → Nat} {kA : Nat → ClassId} {σ : CsC} : CrC ad kA σ (CwC ad kA σ) := ⟨by simp [CwC], fun _ h => CwC_at h⟩
theorem CrC.eq {ad : Nat → Nat} {kA : Nat → ClassId} {σ : CsC} {ws : va_W} (h : CrC ad kA σ ws) : ws = CwC ad kA σ := by sorry
theorem CwC_rT {ad : Nat → Nat} {kA : Nat → ClassId} {σ τ : CsC} (h : WeC σ τ) : CwC ad kA τ = CwC ad kA σ := ((CwC_cr.we h).eq).symm
theorem WeC.cn {σ τ : CsC} (h : WeC σ τ) : τ.1 = σ.1 := h.1
/-! room -/
/-- the addresses to come are known: each new cell is the next one -/
def AdC (ad : Nat → Nat) (σ : CsC) (n : Nat) : Prop := ∀ i, cnC σ ≤ i → i < cpC σ → ad i = n + (i - cnC σ)
def GrC (σ τ : CsC) : Prop := (cnC σ ≤ cnC τ ∧ slC σ ≤ slC τ) ∧ τ.1.2 = σ.1.2 ∧ (cnC τ ≤ cpC τ ∧ slC τ ≤ spC τ) ∧ cpC τ ≤ 1000000
theorem GrC.tr {σ τ υ : CsC} (h1 : GrC σ τ) (h2 : GrC τ υ) : GrC σ υ := by sorry
theorem GrC.cp {σ τ : CsC} (h : GrC σ τ) : cpC τ = cpC σ ∧ spC τ = spC σ := ⟨congrArg Prod.fst h.2.1, congrArg Prod.snd h.2.1⟩
/-- the slots of the cells from n on -/
def smC (H : Heap) (n : Nat) : Nat := ((H.toList.drop n).map (·.slots.size)).sum
theorem smC_add {H H1 : Heap} {n : Nat} (hn : n ≤ H.size) (hl : H.size ≤ H1.size) (h : ∀ (q : Nat) (c : Cell), H[q]? = some c → ∃ c', H1[q]? = some c' ∧ c'.slots.size = c.slots.size) : smC H1 n = smC H n + smC H1 H.size := by sorry
section CRM
variable {p : Program} {l : Launch} {e : Env} {R : Room} {s : State} {m : MethodId} {args : Array Value} {below : List Frame} {meth : Method} {c : Code} {H : Heap} {locs : List Loc} {cells slots : Nat} {Q : State → Prop} {g : JFrame}
/-- the counters may be set to any bound that holds -/
theorem W.tightC {cells' slots' : Nat} (hc : H.size ≤ s.heap.size + cells') (hs : smC H s.heap.size ≤ slots') (k : W p l e R s m args below meth c H locs cells' slots' Q g) : W p l e R s m args below meth c H locs cells slots Q g := by sorry
/-- what the counters say -/
theorem W.knowC (k : (s.heap.size ≤ H.size ∧ H.size ≤ s.heap.size + cells) → smC H s.heap.size ≤ slots → (∀ (q : Nat) (c : Cell), s.heap[q]? = some c → ∃ c', H[q]? = some c' ∧ c'.slots.size = c.slots.size) → W p l e R s m args below meth c H locs cells slots Q g) : W p l e R s m args below meth c H locs cells slots Q g := by sorry
end CRM
/-! contracts -/
def cPreC (D : va_G) (ad : Nat → Nat) (kA : Nat → ClassId) (σ : CsC) (sz : Nat) (U : State) : Prop := U.heap.size = sz ∧ va_P D vwCl (CwC ad kA σ) U.heap ∧ va_K D vwCl (tyC kA) U ∧ va_D (fun _ => True) (CwC ad kA σ) ∧ AdC ad σ sz ∧ evC ad (va_A (CwC ad kA σ) sz) U U.heap
def cPostC (D : va_G) (ad : Nat → Nat) (kA : Nat → ClassId) (σ : CsC) (sz : Nat) (τ : CsC) (st t : State) : Prop := (va_P D vwCl (CwC ad kA τ) t.heap ∧ va_K D vwCl (tyC kA) t ∧ va_D (va_A (CwC ad kA σ) sz) (CwC ad kA τ)) ∧ (AdC ad τ t.heap.size ∧ GrC σ τ ∧ t.heap.size = sz + (cnC τ - cnC σ)) ∧ smC t.heap sz ≤ slC τ - slC σ ∧ ∀ (q : Nat) (c : Cell), st.heap[q]? = some c → ∃ c', t.heap[q]? = some c' ∧ c'.slots.size = c.slots.size
def cQcC (D : va_G) (ad : Nat → Nat) (kA : Nat → ClassId) (σ : CsC) (sz : Nat) (post : Option AvC → CsC → Prop) : Array Value → State → Outcome → State → Prop := fun _ st oc t => (∃ (r : Option AvC) (τ : CsC), oc = .returned (r.map (cvC ad)) ∧ post r τ ∧ cPostC D ad kA σ sz τ st t) ∧ va_F (va_A (CwC ad kA σ) sz) st t
def rmC (lev : Nat) (σ : CsC) : Room := { frames := lev, cells := cpC σ - cnC σ, slots := spC σ - slC σ, locals := 100 * lev }
/-- a method of the class keeps its contract; all the room that is left is its -/
def CMetC (l : Launch) (lev μ : Nat) (P : CpC) (Q : CqC) : Prop := ∃ r : CmC, mtC[μ]? = some r ∧ ∀ (D : va_G) (ad : Nat → Nat) (kA : Nat → ClassId) (σ : CsC) (sz : Nat) (As : List AvC), P As σ → GrC σ σ →
  Met l r.1 (wcC r :: cGC) (rmC lev σ) (va_Pc (As.map (cvC ad)) (fun U => cPreC D ad kA σ sz U)) (cQcC D ad kA σ sz (Q As σ)) (cpC σ - cnC σ) (spC σ - slC σ) (va_A (CwC ad kA σ) sz)
def fiC : List Bool := [false, false, false, false, false, false, false, false, false, false, false, false, false, false, false, false, false, false, false, false, false, false, false, false, false, false, false, false, false, false, true, true, true, true, false, false, false, false, false, false, false, false, false, false, false, false, false, false, false, false, false, false, false, false, false, false, false, false, false, false, true, true, true, true, false, false, false, false, false, false, false, false, false, false, false, false, false, false, false, false, false, false, false, false, false, false, false, false, false, false, false, false, false, true, false, false, false, false, false, false, false, false, false, false, false, false, false, false, false, false, false, false, false, false, false, false, false, false, false, false, true, false, false, false, false, false, false, false, false, false, false, false, false, false, false, false, false, false, false, false, false, false, false, false, false, false, false, false, false, false, true, true, true, true, true, true, true, true, true, false, false, false, false, false, false, false, false, false, false, false, false, false, false, false, false, false, false, false, false, false, true, true, true, true, true, false, false, false, false, false, false, false, false, false, false, false, false, false, false, false, false, false, false, false, false, false, false, false, false, false, true, true, true, true, true, true, true, false, false, false, false, false, false, false, false, false, false, false, false, false, false, false, false, false, false, false, false, false, false, false, false, false, false, false, false, false, false, false, false, false, false, false, false, false, false, false, false, false, false, false, false, false, false, false, false, false, false, false, false, false, true, true, true, true, true, false, false, false, false, false, false, false, false, false, false, false, false, false, false, false, false, false, false, false, false, false, false, false, false, false, true, true, true, true, true, false, true, false, false, false, false, false, false, false, false, false, false, false, false, false, false, false, false, false, false, false, false, false, false, false, true, true, true, true, false, false, false, false, false, false, false, false, false, false, false, false, false, false, false, false, false, false, false, false, false, false, false, false, false, false, true, true, true, false, false, true, true, true, true, false, false, false, false, false, false, false, false, false, false, false, false, false, false, false, false, false, false, false, false, false]
/-- the tables say of an instruction what was found out about it -/
def cok2C (own nL : Nat) (ret : Option FieldType) (ini : Bool) (x : RI) (pc : Nat) : Bool :=
  match x.1 with
  | .iconst _ => x.2.1 == 1
  | .bipush n => x.2.1 == 2 && decide ((Int8.ofInt n).toInt32 = Int32.ofInt n)
  | .sipush n => x.2.1 == 3 && decide ((Int16.ofInt n).toInt32 = Int32.ofInt n)
  | .lconst _ => x.2.1 == 1
  | .ldc2_w i => x.2.1 == 3 && decide ((own, i, x.2.2.1) ∈ llC)
  | .ldc i => x.2.1 == 2 && (match Nat.beq x.2.2.2.1 0 with
    | true => decide ((own, i, x.2.2.1) ∈ ilC)
    | false => (decide (1000003 ≤ x.2.2.2.1) && decide ((own, i, x.2.2.2.1 - 1000003) ∈ rlC)) || (decide (x.2.2.2.1 = 1000011) && decide ((own, i, 22) ∈ clC)))
  | .iload_n n => x.2.1 == 1 && decide ((n : Nat) = x.2.2.2.1)
  | .iload _ => x.2.1 == 2
  | .lload_n n => x.2.1 == 1 && decide ((n : Nat) = x.2.2.2.1)
  | .lload _ => x.2.1 == 2
  | .aload_n n => x.2.1 == 1 && decide ((n : Nat) = x.2.2.2.1)
  | .aload _ => x.2.1 == 2
  | .istore_n n => x.2.1 == 1 && decide ((n : Nat) < nL) && decide ((n : Nat) = x.2.2.2.1)
  | .istore n => x.2.1 == 2 && decide (n < nL)
  | .lstore_n n => x.2.1 == 1 && decide ((n : Nat) + 1 < nL) && decide ((n : Nat) = x.2.2.2.1)
  | .lstore n => x.2.1 == 2 && decide (n + 1 < nL)
  | .astore_n n => x.2.1 == 1 && decide ((n : Nat) < nL) && decide ((n : Nat) = x.2.2.2.1)
  | .astore n => x.2.1 == 2 && decide (n < nL)
  | .iinc n _ => x.2.1 == 3 && decide (n < nL)
  | .ifCond _ o => x.2.1 == 3 && decide ((pc : Int) + o = (x.2.2.2.1 : Int))
  | .if_icmp _ o => x.2.1 == 3 && decide ((pc : Int) + o = (x.2.2.2.1 : Int))
  | .if_acmp _ o => x.2.1 == 3 && decide ((pc : Int) + o = (x.2.2.2.1 : Int))
  | .ifnull o => x.2.1 == 3 && decide ((pc : Int) + o = (x.2.2.2.1 : Int))
  | .ifnonnull o => x.2.1 == 3 && decide ((pc : Int) + o = (x.2.2.2.1 : Int))
  | .goto o => x.2.1 == 3 && decide ((pc : Int) + o = (x.2.2.2.1 : Int))
  | .tableswitch d lo hi os => decide ((pc : Int) + d = (x.2.2.2.1 : Int)) && decide (hi + 1 = lo + x.2.2.2.2.length) && decide (x.2.2.2.2.length = os.size) && (List.range os.size).all (fun j => match x.2.2.2.2[j]?, os[j]? with
    | some q, some o => decide (q.1 = lo + j) && decide ((pc : Int) + o = (q.2 : Int))
    | _, _ => false)
  | .lookupswitch d ps => decide ((pc : Int) + d = (x.2.2.2.1 : Int)) && (ps.toList.zip (ps.toList.drop 1)).all (fun (a, next) => a.1 < next.1) && decide (x.2.2.2.2.map (fun q => (q.1, (q.2 : Int))) = ps.toList.map (fun q => (q.1, (pc : Int) + q.2)))
  | .ireturn => x.2.1 == 1 && ((decide (ret = some .int) && decide (x.2.2.1 = 1)) || (decide (ret = some .boolean) && decide (x.2.2.1 = 2)))
  | .lreturn => x.2.1 == 1 && decide (ret = some .long)
  | .areturn => x.2.1 == 1 && (match ret with
    | some (.object _) => true
    | some (.array _) => true
    | _ => false)
  | .return_ => x.2.1 == 1 && decide (ret = none)
  | .getfield i => x.2.1 == 3 && decide ((own, i, x.2.2.2.1) ∈ flC) && decide (x.2.2.2.1 / 30 < 13) && decide (x.2.2.2.1 % 30 < nfC (x.2.2.2.1 / 30)) && decide (own = 20 → x.2.2.2.1 = 0)
  | .getstatic i => x.2.1 == 3 && decide ((own, i, x.2.2.2.1) ∈ zlC)
  | .putfield i => x.2.1 == 3 && decide ((own, i, x.2.2.2.1) ∈ flC) && decide (x.2.2.2.1 / 30 < 13) && decide (x.2.2.2.1 % 30 < nfC (x.2.2.2.1 / 30)) && decide (own = 20 → x.2.2.2.1 = 0) && (!(fiC.getD x.2.2.2.1 true) || (ini && decide (own = x.2.2.2.1 / 30)))
  | .newarray t => x.2.1 == 2 && ((decide (t = .int) && decide (x.2.2.2.1 = 100)) || (decide (t = .byte) && decide (x.2.2.2.1 = 101)) || (decide (t = .long) && decide (x.2.2.2.1 = 102)))
  | .anewarray i => x.2.1 == 3 && ((decide ((own, i, 2) ∈ clC) && decide (x.2.2.2.1 = 104)) || (decide ((own, i, 9) ∈ clC) && decide (x.2.2.2.1 = 105)) || (decide ((own, i, 15) ∈ clC) && decide (x.2.2.2.1 = 103)))
  | .new i => x.2.1 == 3 && decide ((own, i, x.2.2.2.1) ∈ clC) && decide (x.2.2.2.1 < 13)
  | .checkcast i => x.2.1 == 3 && decide ((own, i, x.2.2.2.1) ∈ clC) && decide (x.2.2.2.1 < 13)
  | .invokevirtual i => x.2.1 == 3 && (match Nat.beq x.2.2.2.1 9998 with
    | true => decide (own = 16) && decide (i = 86)
    | false => decide ((own, i, x.2.2.2.1) ∈ mlC) && (match mtC[x.2.2.2.1]? with
      | some r => decide ((r.2.2.2.2.1 : Int) = x.2.2.1) && decide (x.2.2.2.2.length = r.2.2.2.2.2.1) && decide (r.2.2.2.2.2.1 < 14) && !r.2.2.2.2.2.2 && decide (r.1.name ≠ "<init>")
      | none => false))
  | .invokespecial i => x.2.1 == 3 && (match Nat.beq x.2.2.2.1 9999 with
    | true => decide ((own, i) ∈ oiC)
    | false => decide ((own, i, x.2.2.2.1) ∈ mlC) && (match mtC[x.2.2.2.1]? with
      | some r => decide ((r.2.2.2.2.1 : Int) = x.2.2.1) && decide (r.1.name = "<init>") && (decide (r.2.2.2.2.2.1 < 13) || decide (r.2.2.2.2.2.1 = 20) || decide (r.2.2.2.2.2.1 = 21)) && decide (r.2.2.2.1 = none) && !r.2.2.2.2.2.2
      | none => false))
  | .invokestatic i => x.2.1 == 3 && (match Nat.ble 9990 x.2.2.2.1 with
    | true => (decide (x.2.2.2.1 = 9997) && (decide (own = 16) && decide (i = 150))) || ((decide (x.2.2.2.1 = 9996) && decide ((own, i, 240) ∈ mlC)) || (decide (x.2.2.2.1 = 9995) && decide ((own, i, 252) ∈ mlC)))
    | false => match mtC[x.2.2.2.1]? with
      | some r => decide ((r.2.2.2.2.1 : Int) = x.2.2.1) && r.2.2.2.2.2.2 && (decide ((own, i, x.2.2.2.1) ∈ mlC) || decide ((own, i, x.2.2.2.1) ∈ nlC))
      | none => false)
  | _ => x.2.1 == 1
def cokC (cc : ByteArray) (own nL : Nat) (ret : Option FieldType) (ini : Bool) (x : RI) (pc : Nat) : Bool := decide (decode cc pc = .ok (x.1, x.2.1)) && cok2C own nL ret ini x pc
def cokBC (cc : ByteArray) (own nL : Nat) (ret : Option FieldType) (ini : Bool) : List RI → Nat → Bool
  | [], _ => true
  | x :: is, pc => cokC cc own nL ret ini x pc && cokBC cc own nL ret ini is (pc + x.2.1)
theorem ctC_mem {ct : CcC} {μ : Nat} {P : CpC} {Q : CqC} (h : ctC ct μ = some (P, Q)) : (μ, P, Q) ∈ ct := by sorry
section CSO
variable {p : Program} {l : Launch} {e : Env} {s : State} {m : MethodId} {args : Array Value} {below : List Frame} {meth : Method} {c : Code}
/-- the machine at a place of a method of the class, in a state that holds σ, comes to its end -/
def gGC (p : Program) (l : Launch) (e : Env) (s : State) (m : MethodId) (args : Array Value) (below : List Frame) (meth : Method) (c : Code) (lev nL : Nat) (D : va_G) (ad : Nat → Nat) (kA : Nat → ClassId) (σ0 : CsC) (Z : Option AvC → CsC → Prop) : CkC := fun pc ls st σ =>
  ∀ (H : Heap) (locs : List Loc) (a : Array Slot), lv_has a nL (clmC ad ls) → va_P D vwCl (CwC ad kA σ) H → va_D (va_A (CwC ad kA σ0) s.heap.size) (CwC ad kA σ) → va_S (va_A (CwC ad kA σ0) s.heap.size) s.heap H locs → GrC σ0 σ →
    W p l e (rmC lev σ0) s m args below meth c H locs (cnC σ - cnC σ0) (slC σ - slC σ0) (MQ below (cQcC D ad kA σ0 s.heap.size Z) args s (cpC σ0 - cnC σ0) (spC σ0 - slC σ0) (va_A (CwC ad kA σ0) s.heap.size)) (F0 m pc a (st.map (cvC ad)))
/-- what a method's walk rests on -/
def eEC (p : Program) (s : State) (m : MethodId) (args : Array Value) (meth : Method) (c : Code) (cc : ByteArray) (own nL lev : Nat) (ret : Option FieldType) (ini : Bool) (D : va_G) (ad : Nat → Nat) (kA : Nat → ClassId) (σ0 : CsC) (Ts : List Jvm.Cond) : Prop :=
  p.tables.exec = Jvm.exec ∧ c.code = cc ∧ c.maxLocals = nL ∧ meth.sig.returnType = ret ∧ meth.locks = false ∧ s.vm.findClass (owC own) = some m.cls ∧ (∀ w ∈ Ts, w.before args s = true) ∧ (∀ w ∈ cGC, w ∈ Ts) ∧ va_K D vwCl (tyC kA) s ∧ evC ad (va_A (CwC ad kA σ0) s.heap.size) s s.heap ∧ (ini = true → meth.name = "<init>") ∧ 1 ≤ lev ∧ AdC ad σ0 s.heap.size

/-- which theorem speaks of an instruction -/
def ccsC (i : Instr) : Nat := match i with
  | .ireturn => 2
  | .lreturn => 2
  | .areturn => 2
  | .return_ => 2
  | .getfield _ => 2
  | .putfield _ => 2
  | .if_acmp _ _ => 2
  | .iaload => 3
  | .baload => 3
  | .laload => 3
  | .aaload => 3
  | .iastore => 3
  | .bastore => 3
  | .lastore => 3
  | .aastore => 3
  | .arraylength => 3
  | .newarray _ => 4
  | .anewarray _ => 4
  | .new _ => 4
  | .checkcast _ => 4
  | .invokevirtual _ => 5
  | .invokespecial _ => 5
  | .invokestatic _ => 5
  | _ => 1
set_option maxHeartbeats 8000000 in
theorem cst_ok1 {lev own nL : Nat} {cc : ByteArray} {ret : Option FieldType} {ini : Bool} {D : va_G} {ad : Nat → Nat} {kA : Nat → ClassId} {σ0 : CsC} {Z : Option AvC → CsC → Prop} {Ts : List Jvm.Cond} {ct : CcC} {K k : CkC}
    (hE : eEC p s m args meth c cc own nL lev ret ini D ad kA σ0 Ts) (hct : ∀ q ∈ ct, ∃ lv, lv < lev ∧ CMetC l lv q.1 q.2.1 q.2.2)
    (hK : ∀ pc ls st σ, K pc ls st σ → gGC p l e s m args below meth c lev nL D ad kA σ0 Z pc ls st σ)
    {x : RI} {pc : Nat} (hok : cokC cc own nL ret ini x pc = true) (hk : ∀ ls st σ, k (pc + x.2.1) ls st σ → gGC p l e s m args below meth c lev nL D ad kA σ0 Z (pc + x.2.1) ls st σ)
    {ls : ClC} {st : List AvC} {σ : CsC} (hw : cstC ct K Z x pc ls st σ k) (hsel : ccsC x.1 = 1) : gGC p l e s m args below meth c lev nL D ad kA σ0 Z pc ls st σ := by sorry
end CSO
def TcC (c : Nat) : u_T := match c with
  | 1 => TX0
  | 2 => TX1
  | 3 => TX2
  | 4 => TX3
  | 5 => TX4
  | 6 => TX5
  | 7 => TX6
  | 8 => TX7
  | 9 => TX8
  | 10 => TX9
  | 11 => TX10
  | 12 => TX11
  | _ => TJx4a65c
def tycC (c : Nat) : Nat → FieldType := match c with
  | 1 => tyX0
  | 2 => tyX1
  | 3 => tyX2
  | 4 => tyX3
  | 5 => tyX4
  | 6 => tyX5
  | 7 => tyX6
  | 8 => tyX7
  | 9 => tyX8
  | 10 => tyX9
  | 11 => tyX10
  | 12 => tyX11
  | _ => tyJx4a65c
def irC (t : FieldType) : Bool := match t with
  | .object _ => true
  | .array _ => true
  | _ => false
theorem irC_ok {t : FieldType} (h : irC t = true) (v : Option Nat) {ad : Nat → Nat} : narrow t (cvC ad (.inr (.inr v))) = cvC ad (.inr (.inr v)) ∧ fits t (cvC ad (.inr (.inr v))) = true := by sorry
theorem clsC13 {c : Nat} (h : c < 13) : c = 0 ∨ c = 1 ∨ c = 2 ∨ c = 3 ∨ c = 4 ∨ c = 5 ∨ c = 6 ∨ c = 7 ∨ c = 8 ∨ c = 9 ∨ c = 10 ∨ c = 11 ∨ c = 12 := by sorry
theorem vwC_at {c : Nat} (h : c < 13) : vwCl[c]? = some (owC c, TcC c, nfC c) := by sorry
theorem nmC_ok {c : Nat} (h : c < 13) : ∀ a, a < nfC c → ∀ b, b < nfC c → a ≠ b → (TcC c a).2.1 ≠ (TcC c b).2.1 := by sorry
theorem tycC_ok {c : Nat} (h : c < 13) : ∀ k, k < nfC c → parseFieldDescriptor (TcC c k).2.2.1 = some (tycC c k) := by sorry
set_option maxRecDepth 100000 in
theorem fldC_ok : ∀ c, c < 13 → ∀ j, j < nfC c → ((TcC c j).1 = owC c ∨ (c = 0 ∧ j = 0 ∧ (TcC c j).1 = "java/util/AbstractList" ∧ (TcC c j).2.1 = "modCount" ∧ (TcC c j).2.2.1 = "I" ∧ (TcC c j).2.2.2 = false)) ∧ (TcC c j).2.1 = (fnC.getD (30 * c + j) ("", "")).1 ∧ (TcC c j).2.2.1 = (fnC.getD (30 * c + j) ("", "")).2 ∧ (TcC c j).2.2.2 = fiC.getD (30 * c + j) true := by sorry
def ktC (t : FieldType) : Nat := match t with
  | .int => 0
  | .boolean => 1
  | .long => 2
  | .object _ => 3
  | .array _ => 3
  | _ => 8
theorem ktC_ok (t : FieldType) : (ktC t = 0 → t = .int) ∧ (ktC t = 1 → t = .boolean) ∧ (ktC t = 2 → t = .long) ∧ (ktC t = 3 → irC t = true) := by sorry
set_option maxRecDepth 100000 in
theorem kndC_ok0 : ∀ c, c < 13 → ∀ j, j < nfC c → ktC (tycC c j) = fkC (30 * c + j) := by sorry
theorem gtC_cv {ad : Nat → Nat} {σ : CsC} {a k : Nat} : cvC ad (gtC σ a k) = fvlC ad σ a k := by sorry
/-- how large the heap is: each new cell is in the world -/
theorem szC {D : va_G} {ad : Nat → Nat} {kA : Nat → ClassId} {σ0 σ : CsC} {A : Nat → Prop} {H0 H : Heap} {locs : List Loc} (hP : va_P D vwCl (CwC ad kA σ) H) (hS : va_S A H0 H locs) (hg : GrC σ0 σ) (hAd : AdC ad σ0 H0.size) (hc : H.size ≤ H0.size + (cnC σ - cnC σ0)) : H.size = H0.size + (cnC σ - cnC σ0) := by sorry
theorem AdC.to {ad : Nat → Nat} {σ0 σ : CsC} {n n' : Nat} (h : AdC ad σ0 n) (hg : GrC σ0 σ) (e : n' = n + (cnC σ - cnC σ0)) : AdC ad σ n' := by sorry
theorem WeC.gr {σ0 σ τ : CsC} (h : WeC σ τ) (hg : GrC σ0 σ) : GrC σ0 τ := by sorry
theorem WeC.nn {σ τ : CsC} (h : WeC σ τ) : cnC τ = cnC σ ∧ slC τ = slC σ := by sorry
theorem WeC.ad {ad : Nat → Nat} {σ τ : CsC} {n : Nat} (h : WeC σ τ) (ha : AdC ad σ n) : AdC ad τ n := by sorry
section CSO
variable {p : Program} {l : Launch} {e : Env} {s : State} {m : MethodId} {args : Array Value} {below : List Frame} {meth : Method} {c : Code}
set_option maxHeartbeats 8000000 in
theorem cst_ok2 {lev own nL : Nat} {cc : ByteArray} {ret : Option FieldType} {ini : Bool} {D : va_G} {ad : Nat → Nat} {kA : Nat → ClassId} {σ0 : CsC} {Z : Option AvC → CsC → Prop} {Ts : List Jvm.Cond} {ct : CcC} {K k : CkC}
    (hE : eEC p s m args meth c cc own nL lev ret ini D ad kA σ0 Ts) (hct : ∀ q ∈ ct, ∃ lv, lv < lev ∧ CMetC l lv q.1 q.2.1 q.2.2)
    (hK : ∀ pc ls st σ, K pc ls st σ → gGC p l e s m args below meth c lev nL D ad kA σ0 Z pc ls st σ)
    {x : RI} {pc : Nat} (hok : cokC cc own nL ret ini x pc = true) (hk : ∀ ls st σ, k (pc + x.2.1) ls st σ → gGC p l e s m args below meth c lev nL D ad kA σ0 Z (pc + x.2.1) ls st σ)
    {ls : ClC} {st : List AvC} {σ : CsC} (hw : cstC ct K Z x pc ls st σ k) (hsel : ccsC x.1 = 2) : gGC p l e s m args below meth c lev nL D ad kA σ0 Z pc ls st σ := by sorry
end CSO
theorem cwC_rw {ad : Nat → Nat} {kA : Nat → ClassId} {σ : CsC} {a t : Nat} (h : RwC σ a t) (ht : 100 ≤ t) : (CwC ad kA σ)[a]? = some (ad a, .inl (kA t, rdtC ad σ a t)) := (CwC_at h.1).trans (by rw [entC_rw h ht])
theorem hoC_rf {ad : Nat → Nat} {f : Nat → Option Nat} {j : Nat} {w : Option Nat} : (fun i => (va_up f j w i).map ad) = va_up (fun i => (f i).map ad) j (w.map ad) := by sorry
theorem vnC {c : Nat} (hc : c = 2 ∨ c = 6 ∨ c = 9 ∨ c = 11) : c < 13 := by sorry
/-- an object that a list may hold -/
theorem anyC {ad : Nat → Nat} {kA : Nat → ClassId} {D : va_G} {σ : CsC} {A : Nat → Prop} {s : State} {H H' : Heap} {b c : Nat} (hKt : va_K D vwCl (tyC kA) s) (hP : va_P D vwCl (CwC ad kA σ) H) (hEv : evC ad A s H') (hc : c = 2 ∨ c = 6 ∨ c = 9 ∨ c = 11) (hob : ObC σ b c) : va_Any "java/lang/Object" s H (ad b) := by sorry
section CSO
variable {p : Program} {l : Launch} {e : Env} {s : State} {m : MethodId} {args : Array Value} {below : List Frame} {meth : Method} {c : Code}
set_option maxHeartbeats 8000000 in
theorem cst_ok3 {lev own nL : Nat} {cc : ByteArray} {ret : Option FieldType} {ini : Bool} {D : va_G} {ad : Nat → Nat} {kA : Nat → ClassId} {σ0 : CsC} {Z : Option AvC → CsC → Prop} {Ts : List Jvm.Cond} {ct : CcC} {K k : CkC}
    (hE : eEC p s m args meth c cc own nL lev ret ini D ad kA σ0 Ts) (hct : ∀ q ∈ ct, ∃ lv, lv < lev ∧ CMetC l lv q.1 q.2.1 q.2.2)
    (hK : ∀ pc ls st σ, K pc ls st σ → gGC p l e s m args below meth c lev nL D ad kA σ0 Z pc ls st σ)
    {x : RI} {pc : Nat} (hok : cokC cc own nL ret ini x pc = true) (hk : ∀ ls st σ, k (pc + x.2.1) ls st σ → gGC p l e s m args below meth c lev nL D ad kA σ0 Z (pc + x.2.1) ls st σ)
    {ls : ClC} {st : List AvC} {σ : CsC} (hw : cstC ct K Z x pc ls st σ k) (hsel : ccsC x.1 = 3) : gGC p l e s m args below meth c lev nL D ad kA σ0 Z pc ls st σ := by sorry
end CSO
theorem clmpC {n : Int32} (h : n ≤ 1000000) : n.toNatClampNeg ≤ 1000000 := by sorry
theorem raC {U : State} {c1 c2 : ClassId} {ty : FieldType} (h1 : va_RA U c1 ty) (h2 : va_RA U c2 ty) : c1 = c2 := by sorry
/-- the address of what is new is the one that was foretold -/
theorem qnC {D : va_G} {ad : Nat → Nat} {kA : Nat → ClassId} {σ0 σ : CsC} {n0 q : Nat} {e : va_E} {H1 : Heap} (hP1 : va_P D vwCl (CwC ad kA σ ++ [(q, e)]) H1) (hD1 : va_D (va_A (CwC ad kA σ0) n0) (CwC ad kA σ ++ [(q, e)])) (hAd : AdC ad σ0 n0) (hg : GrC σ0 σ) (hlt : cnC σ < cpC σ) (hc : H1.size ≤ n0 + (cnC σ - cnC σ0 + 1)) : q = ad (cnC σ) := by sorry
theorem dflC_ok {c : Nat} (h : c < 13) : ∀ j, j < nfC c → defaultValue (tycC c j) = vp_V (dflC c) j := by sorry
section CSO
variable {p : Program} {l : Launch} {e : Env} {s : State} {m : MethodId} {args : Array Value} {below : List Frame} {meth : Method} {c : Code}
set_option maxHeartbeats 8000000 in
theorem cst_ok4 {lev own nL : Nat} {cc : ByteArray} {ret : Option FieldType} {ini : Bool} {D : va_G} {ad : Nat → Nat} {kA : Nat → ClassId} {σ0 : CsC} {Z : Option AvC → CsC → Prop} {Ts : List Jvm.Cond} {ct : CcC} {K k : CkC}
    (hE : eEC p s m args meth c cc own nL lev ret ini D ad kA σ0 Ts) (hct : ∀ q ∈ ct, ∃ lv, lv < lev ∧ CMetC l lv q.1 q.2.1 q.2.2)
    (hK : ∀ pc ls st σ, K pc ls st σ → gGC p l e s m args below meth c lev nL D ad kA σ0 Z pc ls st σ)
    {x : RI} {pc : Nat} (hok : cokC cc own nL ret ini x pc = true) (hk : ∀ ls st σ, k (pc + x.2.1) ls st σ → gGC p l e s m args below meth c lev nL D ad kA σ0 Z (pc + x.2.1) ls st σ)
    {ls : ClC} {st : List AvC} {σ : CsC} (hw : cstC ct K Z x pc ls st σ k) (hsel : ccsC x.1 = 4) : gGC p l e s m args below meth c lev nL D ad kA σ0 Z pc ls st σ := by sorry
end CSO
theorem rfdC {bs : RB} {pc : Nat} {is : List RI} (h : rfd bs pc = some is) : (pc, is) ∈ bs := by sorry
section CSC
variable {p : Program} {l : Launch} {e : Env} {R : Room} {s : State} {m : MethodId} {args : Array Value} {below : List Frame} {meth : Method} {c : Code} {H : Heap} {locs : List Loc} {cells slots : Nat} {Q : State → Prop}
theorem callC {D : va_G} {ad : Nat → Nat} {kA : Nat → ClassId} {σ : CsC} {pc mc ms : Nat} {post : Option AvC → CsC → Prop} {ls : Array Slot} {rest st0 : List Value} {a : Array Value} {A0 : Nat → Prop} {H0 : Heap} {free : Addr → Prop}
    (hr : va_Run p l e R s m args below meth c H locs cells slots mc ms (F0 m pc ls st0) rest (cQcC D ad kA σ H.size post a) free) (hS : va_S A0 H0 H locs) (hA : ∀ q, va_A (CwC ad kA σ) H.size q → A0 q) (hf : ∀ q, free q → A0 q)
    (kk : ∀ (r : Option AvC) (τ : CsC) (t : State) (st : State), st.heap = H → s.vm.Alike t.vm → post r τ → cPostC D ad kA σ H.size τ st t → ∀ (locs1 : List Loc), va_S A0 H0 t.heap locs1 → W p l e R s m args below meth c t.heap locs1 (cells + mc) (slots + ms) Q (F0 m (pc + 3) ls ((r.map (cvC ad)).toList ++ rest))) : W p l e R s m args below meth c H locs cells slots Q (F0 m pc ls st0) := by sorry
end CSC
theorem mapC_to {ad : Nat → Nat} (w : Option AvC) (r : List AvC) : (w.toList ++ r).map (cvC ad) = (w.map (cvC ad)).toList ++ r.map (cvC ad) := by sorry
theorem blindC {D : va_G} {ad : Nat → Nat} {kA : Nat → ClassId} {σ : CsC} {sz : Nat} {As : List Value} (a : Array Value) (U : State) (g : JFrame) (mk : MethodId) (q : va_Pc As (fun U => cPreC D ad kA σ sz U) a U) : va_Pc As (fun U => cPreC D ad kA σ sz U) a (U.calling g mk a) := by sorry
section CSO
variable {p : Program} {l : Launch} {e : Env} {s : State} {m : MethodId} {args : Array Value} {below : List Frame} {meth : Method} {c : Code}
set_option maxHeartbeats 8000000 in
theorem cst_ok5 {lev own nL : Nat} {cc : ByteArray} {ret : Option FieldType} {ini : Bool} {D : va_G} {ad : Nat → Nat} {kA : Nat → ClassId} {σ0 : CsC} {Z : Option AvC → CsC → Prop} {Ts : List Jvm.Cond} {ct : CcC} {K k : CkC}
    (hE : eEC p s m args meth c cc own nL lev ret ini D ad kA σ0 Ts) (hct : ∀ q ∈ ct, ∃ lv, lv < lev ∧ CMetC l lv q.1 q.2.1 q.2.2)
    (hK : ∀ pc ls st σ, K pc ls st σ → gGC p l e s m args below meth c lev nL D ad kA σ0 Z pc ls st σ)
    {x : RI} {pc : Nat} (hok : cokC cc own nL ret ini x pc = true) (hk : ∀ ls st σ, k (pc + x.2.1) ls st σ → gGC p l e s m args below meth c lev nL D ad kA σ0 Z (pc + x.2.1) ls st σ)
    {ls : ClC} {st : List AvC} {σ : CsC} (hw : cstC ct K Z x pc ls st σ k) (hsel : ccsC x.1 = 5) : gGC p l e s m args below meth c lev nL D ad kA σ0 Z pc ls st σ := by sorry
theorem cst_ok {lev own nL : Nat} {cc : ByteArray} {ret : Option FieldType} {ini : Bool} {D : va_G} {ad : Nat → Nat} {kA : Nat → ClassId} {σ0 : CsC} {Z : Option AvC → CsC → Prop} {Ts : List Jvm.Cond} {ct : CcC} {K k : CkC}
    (hE : eEC p s m args meth c cc own nL lev ret ini D ad kA σ0 Ts) (hct : ∀ q ∈ ct, ∃ lv, lv < lev ∧ CMetC l lv q.1 q.2.1 q.2.2)
    (hK : ∀ pc ls st σ, K pc ls st σ → gGC p l e s m args below meth c lev nL D ad kA σ0 Z pc ls st σ)
    {x : RI} {pc : Nat} (hok : cokC cc own nL ret ini x pc = true) (hk : ∀ ls st σ, k (pc + x.2.1) ls st σ → gGC p l e s m args below meth c lev nL D ad kA σ0 Z (pc + x.2.1) ls st σ)
    {ls : ClC} {st : List AvC} {σ : CsC} (hw : cstC ct K Z x pc ls st σ k) : gGC p l e s m args below meth c lev nL D ad kA σ0 Z pc ls st σ := by sorry
theorem cwp_ok {lev own nL : Nat} {cc : ByteArray} {ret : Option FieldType} {ini : Bool} {D : va_G} {ad : Nat → Nat} {kA : Nat → ClassId} {σ0 : CsC} {Z : Option AvC → CsC → Prop} {Ts : List Jvm.Cond} {ct : CcC} {K : CkC}
    (hE : eEC p s m args meth c cc own nL lev ret ini D ad kA σ0 Ts) (hct : ∀ q ∈ ct, ∃ lv, lv < lev ∧ CMetC l lv q.1 q.2.1 q.2.2)
    (hK : ∀ pc ls st σ, K pc ls st σ → gGC p l e s m args below meth c lev nL D ad kA σ0 Z pc ls st σ)
    (is : List RI) : ∀ (pc : Nat), cokBC cc own nL ret ini is pc = true → ∀ (ls : ClC) (st : List AvC) (σ : CsC), cwpC ct K Z is pc ls st σ → gGC p l e s m args below meth c lev nL D ad kA σ0 Z pc ls st σ := by sorry
end CSO
def cokMC (r : CmC) (bs : RB) : Bool := bs.all (fun b => cokBC r.2.1 r.2.2.2.2.2.1 r.2.2.1 r.2.2.2.1 (decide (r.1.name = "<init>")) b.2 b.1)
/-- a method's contract out of its blocks -/
theorem CMetC.of {l : Launch} {lev μ : Nat} {P : CpC} {Q : CqC} {r : CmC} (bs : RB) (ct : CcC) (hr : mtC[μ]? = some r) (hpl : plainName r.1.cls = true) (hlev : 1 ≤ lev) (hok : cokMC r bs = true) (hct : ∀ q ∈ ct, ∃ lv, lv < lev ∧ CMetC l lv q.1 q.2.1 q.2.2)
    (hlen : ∀ (As : List AvC) (σ : CsC), P As σ → lgC As ≤ r.2.2.1)
    (body : ∀ (As : List AvC) (σ : CsC), P As σ → GrC σ σ → ∀ G : CkC, (∀ (pc : Nat) (ls : ClC) (st : List AvC) (τ : CsC), cgoC bs ct G (Q As σ) pc ls st τ → G pc ls st τ) → (∀ (pc : Nat) (ls ls' : ClC) (st : List AvC) (τ : CsC), (∀ q ∈ ls, q ∈ ls') → G pc ls st τ → G pc ls' st τ) → G 0 (agC 0 As) [] σ) : CMetC l lev μ P Q := by sorry
/-! length() and charAt() of a text -/
/-- what is given of texts -/
def evS (z0 : Nat) (adK adV : Nat → Nat) (A : Nat → Prop) (U : State) (H : Heap) : Prop :=
  True ∧ True ∧ True ∧ va_Z "java/lang/String" "COMPACT_STRINGS" "Z" (.int 1) A U H ∧ va_Zq "jdk/internal/util/Preconditions" "SIOOBE_FORMATTER" "Ljava/util/function/BiFunction;" A U H ∧ vk_S 4 jlen jbyt adK adV A U H ∧ True
theorem evS_pass {z0 : Nat} {adK adV : Nat → Nat} {A B : Nat → Prop} {s U : State} {H : Heap} {locs : List Loc} (hW : s.WarmedH U.vm) (h : evS z0 adK adV A s s.heap) (hS : va_S A s.heap H locs) (hF : ∀ q, B q → A q) : evS z0 adK adV B U H := by sorry
theorem evS_call {z0 : Nat} {adK adV : Nat → Nat} {A : Nat → Prop} {u U : State} {H : Heap} (hv : U.vm = u.vm) (h : evS z0 adK adV A u H) : evS z0 adK adV A U H := by sorry
theorem jl_lt : ∀ i, i < 4 → jlen.getD i 0 < 2 ^ 31 := by sorry
theorem dJ0_length_8abf5_0 : decode cJ0_length_8abf5 0 = .ok (.aload_n 0, 1) := by sorry
theorem dJ0_length_8abf5_1 : decode cJ0_length_8abf5 1 = .ok (.getfield 9, 3) := by sorry
theorem dJ0_length_8abf5_4 : decode cJ0_length_8abf5 4 = .ok (.arraylength, 1) := by sorry
theorem dJ0_length_8abf5_5 : decode cJ0_length_8abf5 5 = .ok (.aload_n 0, 1) := by sorry
theorem dJ0_length_8abf5_6 : decode cJ0_length_8abf5 6 = .ok (.invokevirtual 335, 3) := by sorry
theorem dJ0_length_8abf5_9 : decode cJ0_length_8abf5 9 = .ok (.ishr, 1) := by sorry
theorem dJ0_length_8abf5_10 : decode cJ0_length_8abf5 10 = .ok (.ireturn, 1) := by sorry
theorem dJ0_charAt_5068e_0 : decode cJ0_charAt_5068e 0 = .ok (.aload_n 0, 1) := by sorry
theorem dJ0_charAt_5068e_1 : decode cJ0_charAt_5068e 1 = .ok (.invokevirtual 492, 3) := by sorry
theorem dJ0_charAt_5068e_4 : decode cJ0_charAt_5068e 4 = .ok (.ifCond .eq 12, 3) := by sorry
theorem dJ0_charAt_5068e_7 : decode cJ0_charAt_5068e 7 = .ok (.aload_n 0, 1) := by sorry
theorem dJ0_charAt_5068e_8 : decode cJ0_charAt_5068e 8 = .ok (.getfield 9, 3) := by sorry
theorem dJ0_charAt_5068e_11 : decode cJ0_charAt_5068e 11 = .ok (.iload_n 1, 1) := by sorry
theorem dJ0_charAt_5068e_12 : decode cJ0_charAt_5068e 12 = .ok (.invokestatic 495, 3) := by sorry
theorem dJ0_charAt_5068e_15 : decode cJ0_charAt_5068e 15 = .ok (.ireturn, 1) := by sorry
theorem dJ0_charAt_5068e_16 : decode cJ0_charAt_5068e 16 = .ok (.aload_n 0, 1) := by sorry
theorem dJ0_charAt_5068e_17 : decode cJ0_charAt_5068e 17 = .ok (.getfield 9, 3) := by sorry
theorem dJ0_charAt_5068e_20 : decode cJ0_charAt_5068e 20 = .ok (.iload_n 1, 1) := by sorry
theorem dJ0_charAt_5068e_21 : decode cJ0_charAt_5068e 21 = .ok (.invokestatic 498, 3) := by sorry
theorem dJ0_charAt_5068e_24 : decode cJ0_charAt_5068e 24 = .ok (.ireturn, 1) := by sorry
theorem dJ0_coder_7d493_0 : decode cJ0_coder_7d493 0 = .ok (.getstatic 38, 3) := by sorry
theorem dJ0_coder_7d493_3 : decode cJ0_coder_7d493 3 = .ok (.ifCond .eq 10, 3) := by sorry
theorem dJ0_coder_7d493_6 : decode cJ0_coder_7d493 6 = .ok (.aload_n 0, 1) := by sorry
theorem dJ0_coder_7d493_7 : decode cJ0_coder_7d493 7 = .ok (.getfield 15, 3) := by sorry
theorem dJ0_coder_7d493_10 : decode cJ0_coder_7d493 10 = .ok (.goto 4, 3) := by sorry
theorem dJ0_coder_7d493_13 : decode cJ0_coder_7d493 13 = .ok (.iconst 1, 1) := by sorry
theorem dJ0_coder_7d493_14 : decode cJ0_coder_7d493 14 = .ok (.ireturn, 1) := by sorry
theorem dJ0_isLatin1_aae02_0 : decode cJ0_isLatin1_aae02 0 = .ok (.getstatic 38, 3) := by sorry
theorem dJ0_isLatin1_aae02_3 : decode cJ0_isLatin1_aae02 3 = .ok (.ifCond .eq 14, 3) := by sorry
theorem dJ0_isLatin1_aae02_6 : decode cJ0_isLatin1_aae02 6 = .ok (.aload_n 0, 1) := by sorry
theorem dJ0_isLatin1_aae02_7 : decode cJ0_isLatin1_aae02 7 = .ok (.getfield 15, 3) := by sorry
theorem dJ0_isLatin1_aae02_10 : decode cJ0_isLatin1_aae02 10 = .ok (.ifCond .ne 7, 3) := by sorry
theorem dJ0_isLatin1_aae02_13 : decode cJ0_isLatin1_aae02 13 = .ok (.iconst 1, 1) := by sorry
theorem dJ0_isLatin1_aae02_14 : decode cJ0_isLatin1_aae02 14 = .ok (.goto 4, 3) := by sorry
theorem dJ0_isLatin1_aae02_17 : decode cJ0_isLatin1_aae02 17 = .ok (.iconst 0, 1) := by sorry
theorem dJ0_isLatin1_aae02_18 : decode cJ0_isLatin1_aae02 18 = .ok (.ireturn, 1) := by sorry
theorem dJ0_checkIndex_df160_0 : decode cJ0_checkIndex_df160 0 = .ok (.iload_n 0, 1) := by sorry
theorem dJ0_checkIndex_df160_1 : decode cJ0_checkIndex_df160 1 = .ok (.iload_n 1, 1) := by sorry
theorem dJ0_checkIndex_df160_2 : decode cJ0_checkIndex_df160 2 = .ok (.getstatic 1053, 3) := by sorry
theorem dJ0_checkIndex_df160_5 : decode cJ0_checkIndex_df160 5 = .ok (.invokestatic 1059, 3) := by sorry
theorem dJ0_checkIndex_df160_8 : decode cJ0_checkIndex_df160 8 = .ok (.pop, 1) := by sorry
theorem dJ0_checkIndex_df160_9 : decode cJ0_checkIndex_df160 9 = .ok (.return_, 1) := by sorry
theorem dJ1_charAt_3b067_0 : decode cJ1_charAt_3b067 0 = .ok (.iload_n 1, 1) := by sorry
theorem dJ1_charAt_3b067_1 : decode cJ1_charAt_3b067 1 = .ok (.aload_n 0, 1) := by sorry
theorem dJ1_charAt_3b067_2 : decode cJ1_charAt_3b067 2 = .ok (.arraylength, 1) := by sorry
theorem dJ1_charAt_3b067_3 : decode cJ1_charAt_3b067 3 = .ok (.invokestatic 9, 3) := by sorry
theorem dJ1_charAt_3b067_6 : decode cJ1_charAt_3b067 6 = .ok (.aload_n 0, 1) := by sorry
theorem dJ1_charAt_3b067_7 : decode cJ1_charAt_3b067 7 = .ok (.iload_n 1, 1) := by sorry
theorem dJ1_charAt_3b067_8 : decode cJ1_charAt_3b067 8 = .ok (.baload, 1) := by sorry
theorem dJ1_charAt_3b067_9 : decode cJ1_charAt_3b067 9 = .ok (.sipush 255, 3) := by sorry
theorem dJ1_charAt_3b067_12 : decode cJ1_charAt_3b067 12 = .ok (.iand, 1) := by sorry
theorem dJ1_charAt_3b067_13 : decode cJ1_charAt_3b067 13 = .ok (.i2c, 1) := by sorry
theorem dJ1_charAt_3b067_14 : decode cJ1_charAt_3b067 14 = .ok (.ireturn, 1) := by sorry
theorem dJ3_checkIndex_8e157_0 : decode cJ3_checkIndex_8e157 0 = .ok (.iload_n 0, 1) := by sorry
theorem dJ3_checkIndex_8e157_1 : decode cJ3_checkIndex_8e157 1 = .ok (.ifCond .lt 8, 3) := by sorry
theorem dJ3_checkIndex_8e157_4 : decode cJ3_checkIndex_8e157 4 = .ok (.iload_n 0, 1) := by sorry
theorem dJ3_checkIndex_8e157_5 : decode cJ3_checkIndex_8e157 5 = .ok (.iload_n 1, 1) := by sorry
theorem dJ3_checkIndex_8e157_6 : decode cJ3_checkIndex_8e157 6 = .ok (.if_icmp .lt 10, 3) := by sorry
theorem dJ3_checkIndex_8e157_9 : decode cJ3_checkIndex_8e157 9 = .ok (.aload_n 2, 1) := by sorry
theorem dJ3_checkIndex_8e157_10 : decode cJ3_checkIndex_8e157 10 = .ok (.iload_n 0, 1) := by sorry
theorem dJ3_checkIndex_8e157_11 : decode cJ3_checkIndex_8e157 11 = .ok (.iload_n 1, 1) := by sorry
theorem dJ3_checkIndex_8e157_12 : decode cJ3_checkIndex_8e157 12 = .ok (.invokestatic 95, 3) := by sorry
theorem dJ3_checkIndex_8e157_15 : decode cJ3_checkIndex_8e157 15 = .ok (.athrow, 1) := by sorry
theorem dJ3_checkIndex_8e157_16 : decode cJ3_checkIndex_8e157 16 = .ok (.iload_n 0, 1) := by sorry
theorem dJ3_checkIndex_8e157_17 : decode cJ3_checkIndex_8e157 17 = .ok (.ireturn, 1) := by sorry
set_option maxHeartbeats 40000000 in
set_option maxRecDepth 100000 in
/-- coder() of a text constant -/
theorem c_coder (l : Launch) (dC : Nat → ClassId) (dI : Nat → Nat → Nat) (z0 : Nat) (adK : Nat → Nat) (adV : Nat → Nat) (i : Nat) (hi : i < 4) (sz : Nat) : Met l yJ0_coder_7d493 ww_coder ({ frames := 1, cells := 0, slots := 0, locals := 100 }) (va_Pc [.ref (adK i)] (fun U => U.heap.size = sz ∧ va_P (dC, dI) vwCl [] U.heap ∧ va_K (dC, dI) vwCl [] U ∧ va_D (fun _ => True) [] ∧ evS z0 adK adV (va_A [] sz) U U.heap)) (va_Qi (fun (r : Int32) (_ : Unit) => r = 0) (fun (_ : Unit) (t : State) => va_P (dC, dI) vwCl [] t.heap ∧ va_K (dC, dI) vwCl [] t ∧ va_D (va_A [] sz) []) (va_A [] sz)) 0 0 (va_A [] sz) := by sorry
set_option maxHeartbeats 40000000 in
set_option maxRecDepth 100000 in
/-- isLatin1() of a text constant -/
theorem c_isLatin1 (l : Launch) (dC : Nat → ClassId) (dI : Nat → Nat → Nat) (z0 : Nat) (adK : Nat → Nat) (adV : Nat → Nat) (i : Nat) (hi : i < 4) (sz : Nat) : Met l yJ0_isLatin1_aae02 ww_isLatin1 ({ frames := 1, cells := 0, slots := 0, locals := 100 }) (va_Pc [.ref (adK i)] (fun U => U.heap.size = sz ∧ va_P (dC, dI) vwCl [] U.heap ∧ va_K (dC, dI) vwCl [] U ∧ va_D (fun _ => True) [] ∧ evS z0 adK adV (va_A [] sz) U U.heap)) (va_Qi (fun (r : Int32) (_ : Unit) => r = 1) (fun (_ : Unit) (t : State) => va_P (dC, dI) vwCl [] t.heap ∧ va_K (dC, dI) vwCl [] t ∧ va_D (va_A [] sz) []) (va_A [] sz)) 0 0 (va_A [] sz) := by sorry
set_option maxHeartbeats 40000000 in
set_option maxRecDepth 100000 in
/-- length() of a text constant -/
theorem c_length (l : Launch) (dC : Nat → ClassId) (dI : Nat → Nat → Nat) (z0 : Nat) (adK : Nat → Nat) (adV : Nat → Nat) (i : Nat) (hi : i < 4) (sz : Nat) : Met l yJ0_length_8abf5 ww_length ({ frames := 2, cells := 0, slots := 0, locals := 200 }) (va_Pc [.ref (adK i)] (fun U => U.heap.size = sz ∧ va_P (dC, dI) vwCl [] U.heap ∧ va_K (dC, dI) vwCl [] U ∧ va_D (fun _ => True) [] ∧ evS z0 adK adV (va_A [] sz) U U.heap)) (va_Qi (fun (r : Int32) (_ : Unit) => r = nI (jlen.getD i 0)) (fun (_ : Unit) (t : State) => va_P (dC, dI) vwCl [] t.heap ∧ va_K (dC, dI) vwCl [] t ∧ va_D (va_A [] sz) []) (va_A [] sz)) 0 0 (va_A [] sz) := by sorry
set_option maxHeartbeats 40000000 in
set_option maxRecDepth 100000 in
/-- Preconditions.checkIndex -/
theorem c_pcheckN (l : Launch) (dC : Nat → ClassId) (dI : Nat → Nat → Nat) (a : Int32) (b : Int32) (ha : ¬ a < 0) (hb2 : a < b) (sz : Nat) : Met l yJ3_checkIndex_8e157 ww_pcheckN ({ frames := 1, cells := 0, slots := 0, locals := 100 }) (va_Pc [.int a, .int b, .null] (fun U => U.heap.size = sz ∧ va_P (dC, dI) vwCl [] U.heap ∧ va_K (dC, dI) vwCl [] U ∧ va_D (fun _ => True) [])) (va_Qi (fun (r : Int32) (_ : Unit) => r = a) (fun (_ : Unit) (t : State) => va_P (dC, dI) vwCl [] t.heap ∧ va_K (dC, dI) vwCl [] t ∧ va_D (va_A [] sz) []) (va_A [] sz)) 0 0 (va_A [] sz) := by sorry
set_option maxHeartbeats 40000000 in
set_option maxRecDepth 100000 in
/-- Preconditions.checkIndex -/
theorem c_pcheckR (l : Launch) (dC : Nat → ClassId) (dI : Nat → Nat → Nat) (a : Int32) (b : Int32) (x2 : Nat) (ha : ¬ a < 0) (hb2 : a < b) (sz : Nat) : Met l yJ3_checkIndex_8e157 ww_pcheckR ({ frames := 1, cells := 0, slots := 0, locals := 100 }) (va_Pc [.int a, .int b, .ref x2] (fun U => U.heap.size = sz ∧ va_P (dC, dI) vwCl [] U.heap ∧ va_K (dC, dI) vwCl [] U ∧ va_D (fun _ => True) [])) (va_Qi (fun (r : Int32) (_ : Unit) => r = a) (fun (_ : Unit) (t : State) => va_P (dC, dI) vwCl [] t.heap ∧ va_K (dC, dI) vwCl [] t ∧ va_D (va_A [] sz) []) (va_A [] sz)) 0 0 (va_A [] sz) := by sorry
set_option maxHeartbeats 40000000 in
set_option maxRecDepth 100000 in
/-- String.checkIndex -/
theorem c_scheck (l : Launch) (dC : Nat → ClassId) (dI : Nat → Nat → Nat) (z0 : Nat) (adK : Nat → Nat) (adV : Nat → Nat) (a : Int32) (b : Int32) (ha : ¬ a < 0) (hb2 : a < b) (sz : Nat) : Met l yJ0_checkIndex_df160 ww_scheck ({ frames := 2, cells := 0, slots := 0, locals := 200 }) (va_Pc [.int a, .int b] (fun U => U.heap.size = sz ∧ va_P (dC, dI) vwCl [] U.heap ∧ va_K (dC, dI) vwCl [] U ∧ va_D (fun _ => True) [] ∧ evS z0 adK adV (va_A [] sz) U U.heap)) (va_Qv (fun _ : Unit => True) (fun (_ : Unit) (t : State) => va_P (dC, dI) vwCl [] t.heap ∧ va_K (dC, dI) vwCl [] t ∧ va_D (va_A [] sz) []) (va_A [] sz)) 0 0 (va_A [] sz) := by sorry
theorem in_of {k : Int32} {N : Nat} (hN : N < 2 ^ 31) (h0 : ¬ k < 0) (h1 : k < nI N) : vp_in k N := by sorry
set_option maxHeartbeats 40000000 in
set_option maxRecDepth 100000 in
/-- StringLatin1.charAt -/
def chrV (i : Nat) (k : Int32) : Int32 := ((((jbyt.getD i []).getD k.toNatClampNeg 0) &&& 255).toUInt32 % 65536).toInt32
theorem c_charAt1 (l : Launch) (dC : Nat → ClassId) (dI : Nat → Nat → Nat) (z0 : Nat) (adK : Nat → Nat) (adV : Nat → Nat) (i : Nat) (k : Int32) (hi : i < 4) (hk0 : ¬ k < 0) (hk1 : k < nI (jlen.getD i 0)) (sz : Nat) : Met l yJ1_charAt_3b067 ww_charAt1 ({ frames := 3, cells := 0, slots := 0, locals := 300 }) (va_Pc [.ref (adV i), .int k] (fun U => U.heap.size = sz ∧ va_P (dC, dI) vwCl [] U.heap ∧ va_K (dC, dI) vwCl [] U ∧ va_D (fun _ => True) [] ∧ evS z0 adK adV (va_A [] sz) U U.heap)) (va_Qi (fun (r : Int32) (_ : Unit) => narrow .char (.int r) = .int r ∧ r = chrV i k) (fun (_ : Unit) (t : State) => va_P (dC, dI) vwCl [] t.heap ∧ va_K (dC, dI) vwCl [] t ∧ va_D (va_A [] sz) []) (va_A [] sz)) 0 0 (va_A [] sz) := by sorry
set_option maxHeartbeats 40000000 in
set_option maxRecDepth 100000 in
/-- charAt of a text constant -/
theorem c_charAt (l : Launch) (dC : Nat → ClassId) (dI : Nat → Nat → Nat) (z0 : Nat) (adK : Nat → Nat) (adV : Nat → Nat) (i : Nat) (k : Int32) (hi : i < 4) (hk0 : ¬ k < 0) (hk1 : k < nI (jlen.getD i 0)) (sz : Nat) : Met l yJ0_charAt_5068e ww_charAt ({ frames := 4, cells := 0, slots := 0, locals := 400 }) (va_Pc [.ref (adK i), .int k] (fun U => U.heap.size = sz ∧ va_P (dC, dI) vwCl [] U.heap ∧ va_K (dC, dI) vwCl [] U ∧ va_D (fun _ => True) [] ∧ evS z0 adK adV (va_A [] sz) U U.heap)) (va_Qi (fun (r : Int32) (_ : Unit) => narrow .char (.int r) = .int r ∧ r = chrV i k) (fun (_ : Unit) (t : State) => va_P (dC, dI) vwCl [] t.heap ∧ va_K (dC, dI) vwCl [] t ∧ va_D (va_A [] sz) []) (va_A [] sz)) 0 0 (va_A [] sz) := by sorry
/-! what holds of the class's heap -/
def inC (k : Nat) : Int × Int := [(-2147483648, 2147483647), (-2147483648, 2147483647), (0, 20000), (-2147483648, 2147483647), (-2147483648, 2147483647), (-2147483648, 2147483647), (-2147483648, 2147483647), (-2147483648, 2147483647), (-2147483648, 2147483647), (-2147483648, 2147483647), (-2147483648, 2147483647), (-2147483648, 2147483647), (-2147483648, 2147483647), (-2147483648, 2147483647), (-2147483648, 2147483647), (-2147483648, 2147483647), (-2147483648, 2147483647), (-2147483648, 2147483647), (-2147483648, 2147483647), (-2147483648, 2147483647), (-2147483648, 2147483647), (-2147483648, 2147483647), (-2147483648, 2147483647), (-2147483648, 2147483647), (-2147483648, 2147483647), (-2147483648, 2147483647), (-2147483648, 2147483647), (-2147483648, 2147483647), (-2147483648, 2147483647), (-2147483648, 2147483647), (-2147483648, 2147483647), (-2147483648, 2147483647), (-2147483648, 2147483647), (-2147483648, 2147483647), (0, 1000), (-2147483648, 2147483647), (-2147483648, 2147483647), (-2147483648, 2147483647), (-2147483648, 2147483647), (-2147483648, 2147483647), (-2147483648, 2147483647), (-2147483648, 2147483647), (-2147483648, 2147483647), (-2147483648, 2147483647), (-2147483648, 2147483647), (-2147483648, 2147483647), (-2147483648, 2147483647), (-2147483648, 2147483647), (-2147483648, 2147483647), (-2147483648, 2147483647), (-2147483648, 2147483647), (-2147483648, 2147483647), (-2147483648, 2147483647), (-2147483648, 2147483647), (-2147483648, 2147483647), (-2147483648, 2147483647), (-2147483648, 2147483647), (-2147483648, 2147483647), (-2147483648, 2147483647), (-2147483648, 2147483647), (-2147483648, 2147483647), (-2147483648, 2147483647), (0, 502), (0, 2147483647), (-2147483648, 2147483647), (-2147483648, 2147483647), (0, 502), (-2147483648, 2147483647), (-2147483648, 2147483647), (-2147483648, 2147483647), (0, 1), (-2147483648, 2147483647), (-2147483648, 2147483647), (-2147483648, 2147483647), (-2147483648, 2147483647), (-2147483648, 2147483647), (-2147483648, 2147483647), (0, 999), (-2147483648, 2147483647), (-2147483648, 2147483647), (-2147483648, 2147483647), (-2147483648, 2147483647), (-2147483648, 2147483647), (-2147483648, 2147483647), (-2147483648, 2147483647), (-2147483648, 2147483647), (-2147483648, 2147483647), (-2147483648, 2147483647), (-2147483648, 2147483647), (-2147483648, 2147483647), (-2147483648, 2147483647), (-2147483648, 2147483647), (-2147483648, 2147483647), (-2147483648, 2147483647), (0, 500), (-2147483648, 2147483647), (-2147483648, 2147483647), (-2147483648, 2147483647), (-2147483648, 2147483647), (-2147483648, 2147483647), (-2147483648, 2147483647), (-2147483648, 2147483647), (-2147483648, 2147483647), (-2147483648, 2147483647), (-2147483648, 2147483647), (-2147483648, 2147483647), (-2147483648, 2147483647), (-2147483648, 2147483647), (-2147483648, 2147483647), (-2147483648, 2147483647), (-2147483648, 2147483647), (-2147483648, 2147483647), (-2147483648, 2147483647), (-2147483648, 2147483647), (-2147483648, 2147483647), (-2147483648, 2147483647), (-2147483648, 2147483647), (-2147483648, 2147483647), (-2147483648, 2147483647), (-2147483648, 2147483647), (-2147483648, 2147483647), (-2147483648, 2147483647), (-2147483648, 2147483647), (-2147483648, 2147483647), (-2147483648, 2147483647), (-2147483648, 2147483647), (-2147483648, 2147483647), (-2147483648, 2147483647), (-2147483648, 2147483647), (-2147483648, 2147483647), (-2147483648, 2147483647), (-2147483648, 2147483647), (-2147483648, 2147483647), (-2147483648, 2147483647), (-2147483648, 2147483647), (-2147483648, 2147483647), (-2147483648, 2147483647), (-2147483648, 2147483647), (-2147483648, 2147483647), (-2147483648, 2147483647), (-2147483648, 2147483647), (-2147483648, 2147483647), (-2147483648, 2147483647), (-2147483648, 2147483647), (-2147483648, 2147483647), (-2147483648, 2147483647), (-2147483648, 2147483647), (-2147483648, 2147483647), (-2147483648, 2147483647), (-2147483648, 2147483647), (-2147483648, 2147483647), (-2147483648, 2147483647), (-2147483648, 2147483647), (-2147483648, 2147483647), (-2147483648, 2147483647), (-2147483648, 2147483647), (-2147483648, 2147483647), (-2147483648, 2147483647), (-2147483648, 2147483647), (-2147483648, 2147483647), (-2147483648, 2147483647), (-2147483648, 2147483647), (0, 7500), (0, 30), ((-2147483648), 20000), (0, 20000), (0, 200), (0, 20000), (-2147483648, 2147483647), (-2147483648, 2147483647), (-2147483648, 2147483647), (-2147483648, 2147483647), (-2147483648, 2147483647), (-2147483648, 2147483647), (-2147483648, 2147483647), (-2147483648, 2147483647), (-2147483648, 2147483647), (-2147483648, 2147483647), (-2147483648, 2147483647), (-2147483648, 2147483647), ((-1), 502), (-2147483648, 2147483647), (-2147483648, 2147483647), (-2147483648, 2147483647), (-2147483648, 2147483647), (0, 6), (-2147483648, 2147483647), (-2147483648, 2147483647), (-2147483648, 2147483647), (-2147483648, 2147483647), (-2147483648, 2147483647), (-2147483648, 2147483647), (-2147483648, 2147483647), (-2147483648, 2147483647), (-2147483648, 2147483647), (-2147483648, 2147483647), (-2147483648, 2147483647), (-2147483648, 2147483647), (-2147483648, 2147483647), (-2147483648, 2147483647), (-2147483648, 2147483647), (-2147483648, 2147483647), (-2147483648, 2147483647), (-2147483648, 2147483647), (-2147483648, 2147483647), (-2147483648, 2147483647), (-2147483648, 2147483647), (-2147483648, 2147483647), (-2147483648, 2147483647), (-2147483648, 2147483647), (-2147483648, 2147483647), (-2147483648, 2147483647), (-2147483648, 2147483647), (-2147483648, 2147483647), (-2147483648, 2147483647), (-2147483648, 2147483647), (-2147483648, 2147483647), (-2147483648, 2147483647), (-2147483648, 2147483647), (-2147483648, 2147483647), (-2147483648, 2147483647), (-2147483648, 2147483647), (-2147483648, 2147483647), (-2147483648, 2147483647), (-2147483648, 2147483647), (-2147483648, 2147483647), (-2147483648, 2147483647), (-2147483648, 2147483647), (-2147483648, 2147483647), (-2147483648, 2147483647), (-2147483648, 2147483647), (-2147483648, 2147483647), (-2147483648, 2147483647), (-2147483648, 2147483647), (-2147483648, 2147483647), (-2147483648, 2147483647), (-2147483648, 2147483647), (-2147483648, 2147483647), (-2147483648, 2147483647), (-2147483648, 2147483647), (-2147483648, 2147483647), (-2147483648, 2147483647), (0, 500), (0, 3), (-2147483648, 2147483647), (-2147483648, 2147483647), (-2147483648, 2147483647), (-2147483648, 2147483647), (-2147483648, 2147483647), (-2147483648, 2147483647), (-2147483648, 2147483647), (-2147483648, 2147483647), (-2147483648, 2147483647), (-2147483648, 2147483647), (-2147483648, 2147483647), (-2147483648, 2147483647), (-2147483648, 2147483647), (-2147483648, 2147483647), (-2147483648, 2147483647), (-2147483648, 2147483647), (-2147483648, 2147483647), (-2147483648, 2147483647), (-2147483648, 2147483647), (-2147483648, 2147483647), (-2147483648, 2147483647), (-2147483648, 2147483647), (-2147483648, 2147483647), (-2147483648, 2147483647), (-2147483648, 2147483647), (-2147483648, 2147483647), (-2147483648, 2147483647), (0, 502), (0, 22), (-2147483648, 2147483647), (-2147483648, 2147483647), (-2147483648, 2147483647), (-2147483648, 2147483647), (-2147483648, 2147483647), (-2147483648, 2147483647), (-2147483648, 2147483647), ((-1), 502), (-2147483648, 2147483647), (0, 1), (0, 1), (0, 1), (-2147483648, 2147483647), (-2147483648, 2147483647), (-2147483648, 2147483647), (-2147483648, 2147483647), (-2147483648, 2147483647), (-2147483648, 2147483647), (-2147483648, 2147483647), (-2147483648, 2147483647), (-2147483648, 2147483647), (-2147483648, 2147483647), (-2147483648, 2147483647), (-2147483648, 2147483647), (-2147483648, 2147483647), (-2147483648, 2147483647), (-2147483648, 2147483647), (-2147483648, 2147483647), (-2147483648, 2147483647), (-2147483648, 2147483647), (-2147483648, 2147483647), (-2147483648, 2147483647), (0, 501), (-2147483648, 2147483647), (-2147483648, 2147483647), (0, 2147483647), (-2147483648, 2147483647), (-2147483648, 2147483647), (-2147483648, 2147483647), (-2147483648, 2147483647), (-2147483648, 2147483647), (-2147483648, 2147483647), (-2147483648, 2147483647), (-2147483648, 2147483647), (-2147483648, 2147483647), (-2147483648, 2147483647), (-2147483648, 2147483647), (-2147483648, 2147483647), (-2147483648, 2147483647), (-2147483648, 2147483647), (-2147483648, 2147483647), (-2147483648, 2147483647), (-2147483648, 2147483647), (-2147483648, 2147483647), (-2147483648, 2147483647), (-2147483648, 2147483647), (-2147483648, 2147483647), (0, 502), (-2147483648, 2147483647), (0, 1), (-2147483648, 2147483647), (0, 1), (0, 1), (-2147483648, 2147483647), (-2147483648, 2147483647), (-2147483648, 2147483647), (-2147483648, 2147483647), (-2147483648, 2147483647), (-2147483648, 2147483647), (-2147483648, 2147483647), (-2147483648, 2147483647), (-2147483648, 2147483647), (-2147483648, 2147483647), (-2147483648, 2147483647), (-2147483648, 2147483647), (-2147483648, 2147483647), (-2147483648, 2147483647), (-2147483648, 2147483647), (-2147483648, 2147483647), (-2147483648, 2147483647), (-2147483648, 2147483647), (-2147483648, 2147483647), (-2147483648, 2147483647), (-2147483648, 2147483647), (-2147483648, 2147483647), (-2147483648, 2147483647), (-2147483648, 2147483647), (-2147483648, 2147483647), (-2147483648, 2147483647), (-2147483648, 2147483647), (-2147483648, 2147483647), (-2147483648, 2147483647), (-2147483648, 2147483647), (-2147483648, 2147483647), (-2147483648, 2147483647), (-2147483648, 2147483647), (0, 2500), (0, 40), (-2147483648, 2147483647), (0, 1), (-2147483648, 2147483647), (-2147483648, 2147483647), (-2147483648, 2147483647), (-2147483648, 2147483647), (-2147483648, 2147483647), (-2147483648, 2147483647), (-2147483648, 2147483647), (-2147483648, 2147483647), (-2147483648, 2147483647), (-2147483648, 2147483647), (-2147483648, 2147483647), (-2147483648, 2147483647), (-2147483648, 2147483647), (-2147483648, 2147483647), (-2147483648, 2147483647), (-2147483648, 2147483647), (-2147483648, 2147483647)].getD k (-2147483648, 2147483647)
/-- null, tag, length, order, what else -/
def rfC (k : Nat) : Nat × Nat × Nat × Nat × Nat := [(1, 999, 9999, 0, 9999), (1, 999, 9999, 0, 9999), (1, 999, 9999, 0, 9999), (1, 999, 9999, 0, 9999), (1, 999, 9999, 0, 9999), (1, 999, 9999, 0, 9999), (1, 999, 9999, 0, 9999), (1, 999, 9999, 0, 9999), (1, 999, 9999, 0, 9999), (1, 999, 9999, 0, 9999), (1, 999, 9999, 0, 9999), (1, 999, 9999, 0, 9999), (1, 999, 9999, 0, 9999), (1, 999, 9999, 0, 9999), (1, 999, 9999, 0, 9999), (1, 999, 9999, 0, 9999), (1, 999, 9999, 0, 9999), (1, 999, 9999, 0, 9999), (1, 999, 9999, 0, 9999), (1, 999, 9999, 0, 9999), (1, 999, 9999, 0, 9999), (1, 999, 9999, 0, 9999), (1, 999, 9999, 0, 9999), (1, 999, 9999, 0, 9999), (1, 999, 9999, 0, 9999), (1, 999, 9999, 0, 9999), (1, 999, 9999, 0, 9999), (1, 999, 9999, 0, 9999), (1, 999, 9999, 0, 9999), (1, 999, 9999, 0, 9999), (0, 100, 1000, 0, 0), (0, 100, 1000, 0, 0), (0, 104, 1000, 0, 9999), (0, 105, 1000, 0, 9999), (1, 999, 9999, 0, 9999), (0, 7, 9999, 0, 9999), (0, 9, 9999, 0, 9999), (1, 999, 9999, 0, 9999), (1, 999, 9999, 0, 9999), (1, 999, 9999, 0, 9999), (1, 999, 9999, 0, 9999), (1, 999, 9999, 0, 9999), (1, 999, 9999, 0, 9999), (1, 999, 9999, 0, 9999), (1, 999, 9999, 0, 9999), (1, 999, 9999, 0, 9999), (1, 999, 9999, 0, 9999), (1, 999, 9999, 0, 9999), (1, 999, 9999, 0, 9999), (1, 999, 9999, 0, 9999), (1, 999, 9999, 0, 9999), (1, 999, 9999, 0, 9999), (1, 999, 9999, 0, 9999), (1, 999, 9999, 0, 9999), (1, 999, 9999, 0, 9999), (1, 999, 9999, 0, 9999), (1, 999, 9999, 0, 9999), (1, 999, 9999, 0, 9999), (1, 999, 9999, 0, 9999), (1, 999, 9999, 0, 9999), (1, 999, 9999, 0, 9999), (1, 999, 9999, 0, 9999), (1, 999, 9999, 0, 9999), (1, 999, 9999, 0, 9999), (1, 999, 9999, 0, 9999), (1, 999, 9999, 0, 9999), (1, 999, 9999, 0, 9999), (1, 999, 9999, 0, 9999), (1, 999, 9999, 0, 9999), (1, 999, 9999, 0, 9999), (1, 999, 9999, 0, 9999), (1, 999, 9999, 0, 9999), (1, 2, 9999, 0, 9999), (1, 2, 9999, 0, 9999), (1, 2, 9999, 0, 9999), (1, 999, 9999, 0, 9999), (1, 2, 9999, 0, 9999), (1, 999, 9999, 0, 9999), (1, 999, 9999, 0, 9999), (1, 999, 9999, 0, 9999), (1, 999, 9999, 0, 9999), (1, 999, 9999, 0, 9999), (1, 999, 9999, 0, 9999), (1, 999, 9999, 0, 9999), (1, 999, 9999, 0, 9999), (1, 999, 9999, 0, 9999), (1, 999, 9999, 0, 9999), (1, 999, 9999, 0, 9999), (1, 999, 9999, 0, 9999), (1, 999, 9999, 0, 9999), (0, 7, 9999, 0, 9999), (1, 999, 9999, 0, 9999), (1, 999, 9999, 0, 9999), (0, 102, 500, 0, 0), (1, 999, 9999, 0, 9999), (1, 999, 9999, 0, 9999), (1, 999, 9999, 0, 9999), (1, 999, 9999, 0, 9999), (1, 999, 9999, 0, 9999), (1, 999, 9999, 0, 9999), (1, 999, 9999, 0, 9999), (1, 999, 9999, 0, 9999), (1, 999, 9999, 0, 9999), (1, 999, 9999, 0, 9999), (1, 999, 9999, 0, 9999), (1, 999, 9999, 0, 9999), (1, 999, 9999, 0, 9999), (1, 999, 9999, 0, 9999), (1, 999, 9999, 0, 9999), (1, 999, 9999, 0, 9999), (1, 999, 9999, 0, 9999), (1, 999, 9999, 0, 9999), (1, 999, 9999, 0, 9999), (1, 999, 9999, 0, 9999), (1, 999, 9999, 0, 9999), (1, 999, 9999, 0, 9999), (1, 999, 9999, 0, 9999), (1, 999, 9999, 0, 9999), (1, 999, 9999, 0, 9999), (1, 999, 9999, 0, 9999), (0, 3, 9999, 0, 9999), (0, 7, 9999, 0, 9999), (1, 999, 9999, 0, 9999), (1, 999, 9999, 0, 9999), (1, 999, 9999, 0, 9999), (1, 999, 9999, 0, 9999), (1, 999, 9999, 0, 9999), (1, 999, 9999, 0, 9999), (1, 999, 9999, 0, 9999), (1, 999, 9999, 0, 9999), (1, 999, 9999, 0, 9999), (1, 999, 9999, 0, 9999), (1, 999, 9999, 0, 9999), (1, 999, 9999, 0, 9999), (1, 999, 9999, 0, 9999), (1, 999, 9999, 0, 9999), (1, 999, 9999, 0, 9999), (1, 999, 9999, 0, 9999), (1, 999, 9999, 0, 9999), (1, 999, 9999, 0, 9999), (1, 999, 9999, 0, 9999), (1, 999, 9999, 0, 9999), (1, 999, 9999, 0, 9999), (1, 999, 9999, 0, 9999), (1, 999, 9999, 0, 9999), (1, 999, 9999, 0, 9999), (1, 999, 9999, 0, 9999), (1, 999, 9999, 0, 9999), (1, 999, 9999, 0, 9999), (1, 999, 9999, 0, 9999), (0, 102, 1800, 0, 0), (0, 102, 7500, 0, 0), (0, 100, 31, 0, 1), (0, 100, 31, 0, 0), (0, 100, 630, 0, 0), (0, 102, 630, 0, 0), (0, 105, 630, 0, 9999), (0, 102, 200, 0, 0), (0, 1, 9999, 0, 9999), (0, 100, 9999, 0, 0), (1, 999, 9999, 0, 9999), (1, 999, 9999, 0, 9999), (1, 999, 9999, 0, 9999), (1, 999, 9999, 0, 9999), (1, 999, 9999, 0, 9999), (1, 999, 9999, 0, 9999), (1, 999, 9999, 0, 9999), (1, 999, 9999, 0, 9999), (1, 999, 9999, 0, 9999), (1, 999, 9999, 0, 9999), (1, 999, 9999, 0, 9999), (1, 999, 9999, 0, 9999), (1, 999, 9999, 0, 9999), (1, 999, 9999, 0, 9999), (1, 999, 9999, 0, 9999), (1, 999, 9999, 0, 9999), (1, 999, 9999, 0, 9999), (1, 999, 9999, 0, 9999), (1, 999, 9999, 0, 9999), (1, 999, 9999, 0, 9999), (1, 999, 9999, 0, 9999), (1, 999, 9999, 0, 9999), (1, 999, 9999, 0, 9999), (0, 100, 6, 0, 7), (1, 999, 9999, 0, 9999), (1, 999, 9999, 0, 9999), (0, 9, 9999, 0, 9999), (1, 999, 9999, 0, 9999), (1, 999, 9999, 0, 9999), (1, 999, 9999, 0, 9999), (1, 999, 9999, 0, 9999), (1, 999, 9999, 0, 9999), (1, 999, 9999, 0, 9999), (1, 999, 9999, 0, 9999), (1, 999, 9999, 0, 9999), (1, 999, 9999, 0, 9999), (1, 999, 9999, 0, 9999), (1, 999, 9999, 0, 9999), (1, 999, 9999, 0, 9999), (1, 999, 9999, 0, 9999), (1, 999, 9999, 0, 9999), (1, 999, 9999, 0, 9999), (1, 999, 9999, 0, 9999), (1, 999, 9999, 0, 9999), (1, 999, 9999, 0, 9999), (1, 999, 9999, 0, 9999), (1, 999, 9999, 0, 9999), (1, 999, 9999, 0, 9999), (1, 999, 9999, 0, 9999), (1, 999, 9999, 0, 9999), (0, 10, 9999, 0, 9999), (0, 0, 9999, 0, 6), (0, 0, 9999, 0, 11), (0, 0, 9999, 0, 2), (0, 0, 9999, 0, 9), (0, 6, 9999, 0, 9999), (0, 6, 9999, 0, 9999), (1, 999, 9999, 0, 9999), (1, 999, 9999, 0, 9999), (1, 999, 9999, 0, 9999), (1, 999, 9999, 0, 9999), (1, 999, 9999, 0, 9999), (1, 999, 9999, 0, 9999), (1, 999, 9999, 0, 9999), (1, 999, 9999, 0, 9999), (1, 999, 9999, 0, 9999), (1, 999, 9999, 0, 9999), (1, 999, 9999, 0, 9999), (1, 999, 9999, 0, 9999), (1, 999, 9999, 0, 9999), (1, 999, 9999, 0, 9999), (1, 999, 9999, 0, 9999), (1, 999, 9999, 0, 9999), (1, 999, 9999, 0, 9999), (1, 999, 9999, 0, 9999), (1, 999, 9999, 0, 9999), (1, 999, 9999, 0, 9999), (1, 999, 9999, 0, 9999), (1, 999, 9999, 0, 9999), (1, 999, 9999, 0, 9999), (0, 7, 9999, 0, 9999), (0, 10, 9999, 0, 9999), (1, 999, 9999, 0, 9999), (1, 999, 9999, 0, 9999), (1, 999, 9999, 0, 9999), (1, 999, 9999, 0, 9999), (1, 9, 9999, 0, 9999), (1, 999, 9999, 0, 9999), (1, 999, 9999, 0, 9999), (1, 999, 9999, 0, 9999), (1, 999, 9999, 0, 9999), (1, 999, 9999, 0, 9999), (1, 999, 9999, 0, 9999), (1, 999, 9999, 0, 9999), (1, 999, 9999, 0, 9999), (1, 999, 9999, 0, 9999), (1, 999, 9999, 0, 9999), (1, 999, 9999, 0, 9999), (1, 999, 9999, 0, 9999), (1, 999, 9999, 0, 9999), (1, 999, 9999, 0, 9999), (1, 999, 9999, 0, 9999), (1, 999, 9999, 0, 9999), (1, 999, 9999, 0, 9999), (1, 999, 9999, 0, 9999), (1, 999, 9999, 0, 9999), (1, 999, 9999, 0, 9999), (1, 999, 9999, 0, 9999), (1, 999, 9999, 0, 9999), (1, 999, 9999, 0, 9999), (1, 999, 9999, 0, 9999), (1, 999, 9999, 0, 9999), (1, 999, 9999, 0, 9999), (1, 9, 9999, 2, 9999), (1, 999, 9999, 0, 9999), (1, 9, 9999, 1, 9999), (1, 9, 9999, 1, 9999), (1, 9, 9999, 1, 9999), (1, 9, 9999, 1, 9999), (1, 2, 9999, 0, 9999), (1, 999, 9999, 0, 9999), (1, 9, 9999, 0, 9999), (1, 999, 9999, 0, 9999), (1, 999, 9999, 0, 9999), (1, 999, 9999, 0, 9999), (1, 999, 9999, 0, 9999), (1, 999, 9999, 0, 9999), (1, 999, 9999, 0, 9999), (1, 999, 9999, 0, 9999), (1, 999, 9999, 0, 9999), (1, 999, 9999, 0, 9999), (1, 999, 9999, 0, 9999), (1, 999, 9999, 0, 9999), (1, 999, 9999, 0, 9999), (1, 999, 9999, 0, 9999), (1, 999, 9999, 0, 9999), (1, 999, 9999, 0, 9999), (1, 999, 9999, 0, 9999), (1, 999, 9999, 0, 9999), (1, 999, 9999, 0, 9999), (0, 100, 503, 0, 3), (0, 100, 503, 0, 4), (0, 100, 503, 0, 2), (0, 100, 503, 0, 0), (0, 102, 503, 0, 0), (1, 999, 9999, 0, 9999), (0, 102, 24, 0, 5), (0, 101, 9999, 0, 9999), (1, 999, 9999, 0, 9999), (1, 999, 9999, 0, 9999), (1, 999, 9999, 0, 9999), (1, 999, 9999, 0, 9999), (1, 999, 9999, 0, 9999), (1, 999, 9999, 0, 9999), (1, 999, 9999, 0, 9999), (1, 999, 9999, 0, 9999), (1, 999, 9999, 0, 9999), (1, 999, 9999, 0, 9999), (1, 999, 9999, 0, 9999), (1, 999, 9999, 0, 9999), (1, 999, 9999, 0, 9999), (1, 999, 9999, 0, 9999), (1, 999, 9999, 0, 9999), (1, 999, 9999, 0, 9999), (1, 999, 9999, 0, 9999), (1, 999, 9999, 0, 9999), (1, 999, 9999, 0, 9999), (1, 999, 9999, 0, 9999), (1, 999, 9999, 0, 9999), (1, 999, 9999, 0, 9999), (1, 999, 9999, 0, 9999), (1, 999, 9999, 0, 9999), (1, 999, 9999, 0, 9999), (1, 999, 9999, 0, 9999), (1, 999, 9999, 0, 9999), (1, 999, 9999, 0, 9999), (1, 999, 9999, 0, 9999), (1, 999, 9999, 0, 9999), (1, 999, 9999, 0, 9999), (1, 999, 9999, 0, 9999), (1, 999, 9999, 0, 9999), (1, 999, 9999, 0, 9999), (1, 999, 9999, 0, 9999), (1, 999, 9999, 0, 9999), (1, 999, 9999, 0, 9999), (1, 999, 9999, 0, 9999), (1, 999, 9999, 0, 9999), (1, 999, 9999, 0, 9999), (1, 999, 9999, 0, 9999), (1, 999, 9999, 0, 9999), (1, 999, 9999, 0, 9999), (1, 999, 9999, 0, 9999), (1, 999, 9999, 0, 9999), (1, 999, 9999, 0, 9999), (1, 999, 9999, 0, 9999), (1, 999, 9999, 0, 9999), (1, 999, 9999, 0, 9999), (1, 999, 9999, 0, 9999), (1, 999, 9999, 0, 9999), (1, 999, 9999, 0, 9999), (0, 101, 2500, 0, 9999), (0, 100, 40, 0, 0), (0, 102, 6, 0, 0), (0, 7, 9999, 0, 9999), (0, 7, 9999, 0, 9999), (0, 8, 9999, 0, 9999), (0, 4, 9999, 0, 9999), (0, 1, 9999, 0, 9999), (0, 5, 9999, 0, 9999), (1, 999, 9999, 0, 9999), (1, 999, 9999, 0, 9999), (1, 999, 9999, 0, 9999), (1, 999, 9999, 0, 9999), (1, 999, 9999, 0, 9999), (1, 999, 9999, 0, 9999), (1, 999, 9999, 0, 9999), (1, 999, 9999, 0, 9999), (1, 999, 9999, 0, 9999), (1, 999, 9999, 0, 9999), (1, 999, 9999, 0, 9999), (1, 999, 9999, 0, 9999), (1, 999, 9999, 0, 9999), (1, 999, 9999, 0, 9999), (1, 999, 9999, 0, 9999), (1, 999, 9999, 0, 9999), (1, 999, 9999, 0, 9999), (1, 999, 9999, 0, 9999), (1, 999, 9999, 0, 9999), (1, 999, 9999, 0, 9999), (1, 999, 9999, 0, 9999)].getD k (1, 999, 9999, 0, 9999)
def finC (k : Nat) : Bool := [false, false, false, false, false, false, false, false, false, false, false, false, false, false, false, false, false, false, false, false, false, false, false, false, false, false, false, false, false, false, true, true, true, true, false, false, false, false, false, false, false, false, false, false, false, false, false, false, false, false, false, false, false, false, false, false, false, false, false, false, true, true, true, true, false, false, false, false, false, false, false, false, false, false, false, false, false, false, false, false, false, false, false, false, false, false, false, false, false, false, false, false, false, true, false, false, false, false, false, false, false, false, false, false, false, false, false, false, false, false, false, false, false, false, false, false, false, false, false, false, true, false, false, false, false, false, false, false, false, false, false, false, false, false, false, false, false, false, false, false, false, false, false, false, false, false, false, false, false, false, true, true, true, true, true, true, true, true, true, false, false, false, false, false, false, false, false, false, false, false, false, false, false, false, false, false, false, false, false, false, true, true, true, true, true, false, false, false, false, false, false, false, false, false, false, false, false, false, false, false, false, false, false, false, false, false, false, false, false, false, true, true, true, true, true, true, true, false, false, false, false, false, false, false, false, false, false, false, false, false, false, false, false, false, false, false, false, false, false, false, false, false, false, false, false, false, false, false, false, false, false, false, false, false, false, false, false, false, false, false, false, false, false, false, false, false, false, false, false, false, true, true, true, true, true, false, false, false, false, false, false, false, false, false, false, false, false, false, false, false, false, false, false, false, false, false, false, false, false, false, true, true, true, true, true, false, true, false, false, false, false, false, false, false, false, false, false, false, false, false, false, false, false, false, false, false, false, false, false, false, true, true, true, true, false, false, false, false, false, false, false, false, false, false, false, false, false, false, false, false, false, false, false, false, false, false, false, false, false, false, true, true, true, false, false, true, true, true, true, false, false, false, false, false, false, false, false, false, false, false, false, false, false, false, false, false, false, false, false, false].getD k false
/-- an exp that waits for no operand -/
def WhC (σ : CsC) (a : Nat) : Prop := ¬ (fIC σ a 60 = 7 ∧ fRC σ a 73 = none)
def TyC (σ : CsC) (a c : Nat) : Prop := a < cnC σ ∧ tgC σ a = c ∧ (c = 2 → WhC σ a)
def OtC (σ : CsC) (o : Option Nat) (c : Nat) : Prop := ∀ b, o = some b → TyC σ b c
def IvC (k : Nat) (x : Int32) : Prop := (inC k).1 ≤ x.toInt ∧ x.toInt ≤ (inC k).2
def RfC (σ : CsC) (a k : Nat) (o : Option Nat) : Prop := match o with
  | none => (rfC k).1 = 1
  | some b => (rfC k).2.1 = 999 ∨ (TyC σ b (rfC k).2.1 ∧ ((rfC k).2.2.1 = 9999 ∨ alC σ b = (rfC k).2.2.1) ∧ ((rfC k).2.2.2.2 = 9999 ∨ ghC σ b = (rfC k).2.2.2.2) ∧ ((rfC k).2.2.2.1 = 1 → a < b) ∧ ((rfC k).2.2.2.1 = 2 → b < a))
/-- a part stands deeper than its whole, or it is one of the few that don't -/
def LvC (σ : CsC) (a b : Nat) : Prop := ((fIC σ a 270).toInt = 68 → (fIC σ b 270).toInt = 92 ∧ (fIC σ a 272).toInt = (fIC σ b 272).toInt) ∧ (¬ (fIC σ a 270).toInt = 68 → (fIC σ a 272).toInt < (fIC σ b 272).toInt ∨ ((fIC σ a 272).toInt = (fIC σ b 272).toInt ∧ (fIC σ a 270).toInt = 60 ∧ ((fIC σ b 270).toInt = 93 ∨ (fIC σ b 270).toInt = 94)))
def NxC (σ : CsC) (a b : Nat) : Prop := (fIC σ a 272).toInt = (fIC σ b 272).toInt ∧ ((fIC σ a 270).toInt = 93 ∨ (fIC σ a 270).toInt = 94 → (fIC σ b 270).toInt = 94)
def ElC (σ : CsC) (g b : Nat) : Prop := TyC σ b g ∧ (g = 2 ∨ g = 6 ∨ g = 9 ∨ g = 11) ∧ (g = 6 → 0 ≤ (fIC σ b 180).toInt)
def X0C (σ : CsC) (a : Nat) : Prop := (fRC σ a 1 = some 1000000 ∧ (fIC σ a 2).toInt = 0) ∨ (∃ r, fRC σ a 1 = some r ∧ (r < cnC σ ∧ tgC σ r = 103 ∧ ghC σ r = a + 1) ∧ ((fIC σ a 2).toInt ≤ alC σ r ∧ alC σ r ≤ 20000 ∧ 10 ≤ alC σ r ∧ (ghC σ a = 6 → (fIC σ a 2).toInt ≤ 100)) ∧ ∀ j, j < (fIC σ a 2).toNatClampNeg → ∃ b, eRC σ r j = some b ∧ ElC σ (ghC σ a) b)
def X2C (σ : CsC) (a : Nat) : Prop := ∀ b, fRC σ a 75 = some b → (b < cnC σ ∧ tgC σ b = 2) ∧ (WhC σ a → a < b ∧ WhC σ b)
def X5C (σ : CsC) (a : Nat) : Prop := (fIC σ a 167).toInt ≤ (fIC σ a 165).toInt ∧ ∀ r, fRC σ a 159 = some r → (fIC σ a 160).toInt ≤ alC σ r
def X6C (σ : CsC) (a : Nat) : Prop := ∀ b, fRC σ a 186 = some b → (fIC σ b 270).toInt = 92
def X9C (σ : CsC) (a : Nat) : Prop := (∀ b, fRC σ a 275 = some b → NxC σ a b) ∧ (∀ b, fRC σ a 276 = some b → LvC σ a b) ∧ (∀ b, fRC σ a 277 = some b → LvC σ a b) ∧ (∀ b, fRC σ a 278 = some b → LvC σ a b)
def X10C (σ : CsC) (a : Nat) : Prop := ∀ r, fRC σ a 307 = some r → (fIC σ a 308).toInt ≤ alC σ r
def XaC (σ : CsC) (a : Nat) : Prop := (tgC σ a = 0 → X0C σ a) ∧ (tgC σ a = 2 → X2C σ a) ∧ (tgC σ a = 5 → X5C σ a) ∧ (tgC σ a = 9 → X9C σ a) ∧ (tgC σ a = 10 → X10C σ a) ∧
  (tgC σ a = 100 → ghC σ a = 1 → ∀ j, 0 ≤ (eIC σ a j).toInt ∧ (eIC σ a j).toInt ≤ 7500) ∧ (tgC σ a = 104 → ∀ j b, eRC σ a j = some b → TyC σ b 2) ∧ (tgC σ a = 105 → ∀ j b, eRC σ a j = some b → TyC σ b 9) ∧ (tgC σ a = 6 → X6C σ a)
def HI0 (σ : CsC) : Prop := ∀ a, a < cnC σ → (∀ k, k / 30 = tgC σ a → IvC k (fIC σ a k) ∧ RfC σ a k (fRC σ a k)) ∧ XaC σ a
/-- a NAME: has its NAME's token -/
def LbC (σ : CsC) (x : Option Nat) : Prop := ∀ a, a < cnC σ → tgC σ a = 9 → x ≠ some a → (fIC σ a 270).toInt = 6 → 0 ≤ (fIC σ a 280).toInt
def HIC (σ : CsC) : Prop := HI0 σ ∧ LbC σ none
/-- rows that a piece of a run must leave alone: codes, places, sizes of tokens (998), bytes (997), words (996), types of params (995) -/
def prC (M : List Nat) (t g : Nat) : Bool := (t == 100 && (Nat.ble 2 g && Nat.ble g 4) && !(M.elem 998)) || (t == 101 && !(M.elem 997)) || (t == 102 && g == 5 && !(M.elem 996)) || (t == 100 && g == 7 && !(M.elem 995))
theorem prC.mo {M M' : List Nat} {t g : Nat} (q : ∀ k, M'.elem k = false → M.elem k = false) (h : prC M' t g = true) : prC M t g = true := by sorry
theorem prC.c {M : List Nat} {g : Nat} (hg : 2 ≤ g ∧ g ≤ 4) (m : M.elem 998 = false) : prC M 100 g = true := by sorry
theorem prC.p {M : List Nat} (m : M.elem 995 = false) : prC M 100 7 = true := by sorry
theorem prC.n8 {g : Nat} (h : g ≤ 4) : prC [998] 100 g = false := by sorry
theorem prC.b {M : List Nat} {g : Nat} (m : M.elem 997 = false) : prC M 101 g = true := by sorry
theorem prC.w {M : List Nat} (m : M.elem 996 = false) : prC M 102 5 = true := by sorry
theorem prC.all {t g : Nat} : prC [995, 996, 997, 998] t g = false := by sorry
/-- what a piece of a run changes: of objects that were there only fields of M, and 999: it may make new ones; 998: codes of tokens -/
def ExC (M : List Nat) (σ τ : CsC) : Prop := cnC σ ≤ cnC τ ∧ (τ.1.2 = σ.1.2 ∧ (M.elem 999 = false → τ.1 = σ.1) ∧ (∀ a, a < cnC σ → prC M (tgC σ a) (ghC σ a) = true → eIC τ a = eIC σ a ∧ eLC τ a = eLC σ a)) ∧ ∀ a, a < cnC σ → (tgC τ a = tgC σ a ∧ alC τ a = alC σ a ∧ ghC τ a = ghC σ a) ∧ (tgC σ a < 13 → ∀ k, finC k = true → fIC τ a k = fIC σ a k ∧ fRC τ a k = fRC σ a k) ∧ ((tgC σ a = 2 → WhC σ a → WhC τ a) ∧ (tgC σ a = 103 → M.elem 2 = false → eRC τ a = eRC σ a)) ∧ ∀ k, M.elem k = false → fIC τ a k = fIC σ a k ∧ fRC τ a k = fRC σ a k
/-- element j of a list -/
def elC (σ : CsC) (a j : Nat) : Option Nat := match fRC σ a 1 with
  | some r => eRC σ r j
  | none => none
theorem el_of {σ : CsC} {a r j : Nat} (e : fRC σ a 1 = some r) : elC σ a j = eRC σ r j := by sorry
/-- b has come behind a's elements, all others are as they were -/
def AeC (a b : Nat) (σ τ : CsC) : Prop := (∀ c, c < cnC σ → tgC σ c = 0 → c ≠ a → ∀ j : Nat, (j : Int) < (fIC σ c 2).toInt → elC τ c j = elC σ c j) ∧ (∀ j : Nat, (j : Int) < (fIC σ a 2).toInt → elC τ a j = elC σ a j) ∧ elC τ a (fIC σ a 2).toNatClampNeg = some b
theorem ExC.rf {M : List Nat} {σ : CsC} : ExC M σ σ := by sorry
theorem ExC.tr {M : List Nat} {σ τ υ : CsC} (h1 : ExC M σ τ) (h2 : ExC M τ υ) : ExC M σ υ := by sorry
theorem ExC.mo {M M' : List Nat} {σ τ : CsC} (h : ExC M σ τ) (hm : M.all (fun k => M'.elem k) = true) : ExC M' σ τ := by sorry
theorem ExC.cn {M : List Nat} {σ τ : CsC} (h : ExC M σ τ) (hm : M.elem 999 = false) : cnC τ = cnC σ := by sorry
theorem TyC.x {M : List Nat} {σ τ : CsC} {a c : Nat} (t : TyC σ a c) (h : ExC M σ τ) : TyC τ a c := by sorry
theorem OtC.x {M : List Nat} {σ τ : CsC} {o : Option Nat} {c : Nat} (t : OtC σ o c) (h : ExC M σ τ) : OtC τ o c := fun b hb => (t b hb).x h
theorem TyC.al {M : List Nat} {σ τ : CsC} {a c : Nat} (t : TyC σ a c) (h : ExC M σ τ) : alC τ a = alC σ a := (h.2.2 a t.1).1.2.1
theorem TyC.gh {M : List Nat} {σ τ : CsC} {a c : Nat} (t : TyC σ a c) (h : ExC M σ τ) : ghC τ a = ghC σ a := (h.2.2 a t.1).1.2.2
theorem TyC.fi {M : List Nat} {σ τ : CsC} {a c : Nat} (t : TyC σ a c) (h : ExC M σ τ) (hc : c < 13) {k : Nat} (hk : finC k = true) : fIC τ a k = fIC σ a k := ((h.2.2 a t.1).2.1 (by rw [t.2.1]; exact hc) k hk).1
theorem TyC.fr {M : List Nat} {σ τ : CsC} {a c : Nat} (t : TyC σ a c) (h : ExC M σ τ) (hc : c < 13) {k : Nat} (hk : finC k = true) : fRC τ a k = fRC σ a k := ((h.2.2 a t.1).2.1 (by rw [t.2.1]; exact hc) k hk).2
theorem TyC.mi {M : List Nat} {σ τ : CsC} {a c : Nat} (t : TyC σ a c) (h : ExC M σ τ) {k : Nat} (hk : M.elem k = false) : fIC τ a k = fIC σ a k := ((h.2.2 a t.1).2.2.2 k hk).1
theorem TyC.mr {M : List Nat} {σ τ : CsC} {a c : Nat} (t : TyC σ a c) (h : ExC M σ τ) {k : Nat} (hk : M.elem k = false) : fRC τ a k = fRC σ a k := ((h.2.2 a t.1).2.2.2 k hk).2
theorem TyC.ob {σ : CsC} {a c : Nat} (t : TyC σ a c) (h : c < 13) : ObC σ a c := by sorry
theorem RfC.x {M : List Nat} {σ τ : CsC} {a k : Nat} {o : Option Nat} (h : ExC M σ τ) (r : RfC σ a k o) : RfC τ a k o := by sorry
theorem ElC.x {M : List Nat} {σ τ : CsC} {g b : Nat} (h : ExC M σ τ) (r : ElC σ g b) : ElC τ g b := by sorry
theorem LvC.x {M : List Nat} {σ τ : CsC} {a b : Nat} (h : ExC M σ τ) (ta : TyC σ a 9) (tb : TyC σ b 9) (r : LvC σ a b) : LvC τ a b := by sorry
theorem NxC.x {M : List Nat} {σ τ : CsC} {a b : Nat} (h : ExC M σ τ) (ta : TyC σ a 9) (tb : TyC σ b 9) (r : NxC σ a b) : NxC τ a b := by sorry
theorem cg0 {σ : CsC} {a : Nat} (h : HI0 σ) (t : TyC σ a 0) : ∃ x, gtC σ a 0 = .inl x ∧ fIC σ a 0 = x ∧ (-2147483648) ≤ x.toInt ∧ x.toInt ≤ 2147483647 := ⟨_, rfl, rfl, ((h a t.1).1 0 (by rw [t.2.1])).1⟩
theorem cg2 {σ : CsC} {a : Nat} (h : HI0 σ) (t : TyC σ a 0) : ∃ x, gtC σ a 2 = .inl x ∧ fIC σ a 2 = x ∧ 0 ≤ x.toInt ∧ x.toInt ≤ 20000 := ⟨_, rfl, rfl, ((h a t.1).1 2 (by rw [t.2.1])).1⟩
theorem cg30 {σ : CsC} {a : Nat} (h : HI0 σ) (t : TyC σ a 1) : ∃ b, gtC σ a 30 = .inr (.inr (some b)) ∧ fRC σ a 30 = some b ∧ TyC σ b 100 ∧ alC σ b = 1000 ∧ ghC σ b = 0 := by sorry
theorem cg31 {σ : CsC} {a : Nat} (h : HI0 σ) (t : TyC σ a 1) : ∃ b, gtC σ a 31 = .inr (.inr (some b)) ∧ fRC σ a 31 = some b ∧ TyC σ b 100 ∧ alC σ b = 1000 ∧ ghC σ b = 0 := by sorry
theorem cg32 {σ : CsC} {a : Nat} (h : HI0 σ) (t : TyC σ a 1) : ∃ b, gtC σ a 32 = .inr (.inr (some b)) ∧ fRC σ a 32 = some b ∧ TyC σ b 104 ∧ alC σ b = 1000 := by sorry
theorem cg33 {σ : CsC} {a : Nat} (h : HI0 σ) (t : TyC σ a 1) : ∃ b, gtC σ a 33 = .inr (.inr (some b)) ∧ fRC σ a 33 = some b ∧ TyC σ b 105 ∧ alC σ b = 1000 := by sorry
theorem cg34 {σ : CsC} {a : Nat} (h : HI0 σ) (t : TyC σ a 1) : ∃ x, gtC σ a 34 = .inl x ∧ fIC σ a 34 = x ∧ 0 ≤ x.toInt ∧ x.toInt ≤ 1000 := ⟨_, rfl, rfl, ((h a t.1).1 34 (by rw [t.2.1])).1⟩
theorem cg35 {σ : CsC} {a : Nat} (h : HI0 σ) (t : TyC σ a 1) : ∃ b, gtC σ a 35 = .inr (.inr (some b)) ∧ fRC σ a 35 = some b ∧ TyC σ b 7 := by sorry
theorem cg36 {σ : CsC} {a : Nat} (h : HI0 σ) (t : TyC σ a 1) : ∃ b, gtC σ a 36 = .inr (.inr (some b)) ∧ fRC σ a 36 = some b ∧ TyC σ b 9 := by sorry
theorem cg60 {σ : CsC} {a : Nat} (h : HI0 σ) (t : TyC σ a 2) : ∃ x, gtC σ a 60 = .inl x ∧ fIC σ a 60 = x ∧ (-2147483648) ≤ x.toInt ∧ x.toInt ≤ 2147483647 := ⟨_, rfl, rfl, ((h a t.1).1 60 (by rw [t.2.1])).1⟩
theorem cg61 {σ : CsC} {a : Nat} (h : HI0 σ) (t : TyC σ a 2) : ∃ x, gtC σ a 61 = .inl x ∧ fIC σ a 61 = x ∧ (-2147483648) ≤ x.toInt ∧ x.toInt ≤ 2147483647 := ⟨_, rfl, rfl, ((h a t.1).1 61 (by rw [t.2.1])).1⟩
theorem cg62 {σ : CsC} {a : Nat} (h : HI0 σ) (t : TyC σ a 2) : ∃ x, gtC σ a 62 = .inl x ∧ fIC σ a 62 = x ∧ 0 ≤ x.toInt ∧ x.toInt ≤ 502 := ⟨_, rfl, rfl, ((h a t.1).1 62 (by rw [t.2.1])).1⟩
theorem cg63 {σ : CsC} {a : Nat} (h : HI0 σ) (t : TyC σ a 2) : ∃ x, gtC σ a 63 = .inl x ∧ fIC σ a 63 = x ∧ 0 ≤ x.toInt ∧ x.toInt ≤ 2147483647 := ⟨_, rfl, rfl, ((h a t.1).1 63 (by rw [t.2.1])).1⟩
theorem cg64 {σ : CsC} {a : Nat} (h : HI0 σ) (t : TyC σ a 2) : ∃ x, gtC σ a 64 = .inl x ∧ fIC σ a 64 = x ∧ (-2147483648) ≤ x.toInt ∧ x.toInt ≤ 2147483647 := ⟨_, rfl, rfl, ((h a t.1).1 64 (by rw [t.2.1])).1⟩
theorem cg65 {σ : CsC} {a : Nat} (h : HI0 σ) (t : TyC σ a 2) : ∃ x, gtC σ a 65 = .inl x ∧ fIC σ a 65 = x ∧ (-2147483648) ≤ x.toInt ∧ x.toInt ≤ 2147483647 := ⟨_, rfl, rfl, ((h a t.1).1 65 (by rw [t.2.1])).1⟩
theorem cg66 {σ : CsC} {a : Nat} (h : HI0 σ) (t : TyC σ a 2) : ∃ x, gtC σ a 66 = .inl x ∧ fIC σ a 66 = x ∧ 0 ≤ x.toInt ∧ x.toInt ≤ 502 := ⟨_, rfl, rfl, ((h a t.1).1 66 (by rw [t.2.1])).1⟩
theorem cg67 {σ : CsC} {a : Nat} (h : HI0 σ) (t : TyC σ a 2) : ∃ x, gtC σ a 67 = .inl x ∧ fIC σ a 67 = x ∧ (-2147483648) ≤ x.toInt ∧ x.toInt ≤ 2147483647 := ⟨_, rfl, rfl, ((h a t.1).1 67 (by rw [t.2.1])).1⟩
theorem cg68 {σ : CsC} {a : Nat} (h : HI0 σ) (t : TyC σ a 2) : ∃ x, gtC σ a 68 = .inl x ∧ fIC σ a 68 = x ∧ (-2147483648) ≤ x.toInt ∧ x.toInt ≤ 2147483647 := ⟨_, rfl, rfl, ((h a t.1).1 68 (by rw [t.2.1])).1⟩
theorem cg69 {σ : CsC} {a : Nat} (h : HI0 σ) (t : TyC σ a 2) : ∃ x, gtC σ a 69 = .inl x ∧ fIC σ a 69 = x ∧ (-2147483648) ≤ x.toInt ∧ x.toInt ≤ 2147483647 := ⟨_, rfl, rfl, ((h a t.1).1 69 (by rw [t.2.1])).1⟩
theorem cg70 {σ : CsC} {a : Nat} (h : HI0 σ) (t : TyC σ a 2) : ∃ x, gtC σ a 70 = .inl x ∧ fIC σ a 70 = x ∧ 0 ≤ x.toInt ∧ x.toInt ≤ 1 := ⟨_, rfl, rfl, ((h a t.1).1 70 (by rw [t.2.1])).1⟩
theorem cg71 {σ : CsC} {a : Nat} : ∃ x, gtC σ a 71 = .inr (.inl x) ∧ fLC σ a 71 = x := ⟨_, rfl, rfl⟩
theorem cg72 {σ : CsC} {a : Nat} (h : HI0 σ) (t : TyC σ a 2) : ∃ o, gtC σ a 72 = .inr (.inr o) ∧ fRC σ a 72 = o ∧ OtC σ o 2 := by sorry
theorem cg73 {σ : CsC} {a : Nat} (h : HI0 σ) (t : TyC σ a 2) : ∃ o, gtC σ a 73 = .inr (.inr o) ∧ fRC σ a 73 = o ∧ OtC σ o 2 := by sorry
theorem cg74 {σ : CsC} {a : Nat} (h : HI0 σ) (t : TyC σ a 2) : ∃ o, gtC σ a 74 = .inr (.inr o) ∧ fRC σ a 74 = o ∧ OtC σ o 2 := by sorry
theorem cg76 {σ : CsC} {a : Nat} (h : HI0 σ) (t : TyC σ a 2) : ∃ o, gtC σ a 76 = .inr (.inr o) ∧ fRC σ a 76 = o ∧ OtC σ o 2 := by sorry
theorem cg77 {σ : CsC} {a : Nat} (h : HI0 σ) (t : TyC σ a 2) : ∃ x, gtC σ a 77 = .inl x ∧ fIC σ a 77 = x ∧ 0 ≤ x.toInt ∧ x.toInt ≤ 999 := ⟨_, rfl, rfl, ((h a t.1).1 77 (by rw [t.2.1])).1⟩
theorem cg90 {σ : CsC} {a : Nat} (h : HI0 σ) (t : TyC σ a 3) : ∃ b, gtC σ a 90 = .inr (.inr (some b)) ∧ fRC σ a 90 = some b ∧ TyC σ b 7 := by sorry
theorem cg91 {σ : CsC} {a : Nat} : ∃ x, gtC σ a 91 = .inr (.inl x) ∧ fLC σ a 91 = x := ⟨_, rfl, rfl⟩
theorem cg92 {σ : CsC} {a : Nat} : ∃ x, gtC σ a 92 = .inr (.inl x) ∧ fLC σ a 92 = x := ⟨_, rfl, rfl⟩
theorem cg93 {σ : CsC} {a : Nat} (h : HI0 σ) (t : TyC σ a 3) : ∃ b, gtC σ a 93 = .inr (.inr (some b)) ∧ fRC σ a 93 = some b ∧ TyC σ b 102 ∧ alC σ b = 500 ∧ ghC σ b = 0 := by sorry
theorem cg94 {σ : CsC} {a : Nat} (h : HI0 σ) (t : TyC σ a 3) : ∃ x, gtC σ a 94 = .inl x ∧ fIC σ a 94 = x ∧ 0 ≤ x.toInt ∧ x.toInt ≤ 500 := ⟨_, rfl, rfl, ((h a t.1).1 94 (by rw [t.2.1])).1⟩
theorem cg120 {σ : CsC} {a : Nat} (h : HI0 σ) (t : TyC σ a 4) : ∃ b, gtC σ a 120 = .inr (.inr (some b)) ∧ fRC σ a 120 = some b ∧ TyC σ b 3 := by sorry
theorem cg121 {σ : CsC} {a : Nat} (h : HI0 σ) (t : TyC σ a 4) : ∃ b, gtC σ a 121 = .inr (.inr (some b)) ∧ fRC σ a 121 = some b ∧ TyC σ b 7 := by sorry
theorem cg150 {σ : CsC} {a : Nat} (h : HI0 σ) (t : TyC σ a 5) : ∃ b, gtC σ a 150 = .inr (.inr (some b)) ∧ fRC σ a 150 = some b ∧ TyC σ b 102 ∧ alC σ b = 1800 ∧ ghC σ b = 0 := by sorry
theorem cg151 {σ : CsC} {a : Nat} (h : HI0 σ) (t : TyC σ a 5) : ∃ b, gtC σ a 151 = .inr (.inr (some b)) ∧ fRC σ a 151 = some b ∧ TyC σ b 102 ∧ alC σ b = 7500 ∧ ghC σ b = 0 := by sorry
theorem cg152 {σ : CsC} {a : Nat} (h : HI0 σ) (t : TyC σ a 5) : ∃ b, gtC σ a 152 = .inr (.inr (some b)) ∧ fRC σ a 152 = some b ∧ TyC σ b 100 ∧ alC σ b = 31 ∧ ghC σ b = 1 := by sorry
theorem cg153 {σ : CsC} {a : Nat} (h : HI0 σ) (t : TyC σ a 5) : ∃ b, gtC σ a 153 = .inr (.inr (some b)) ∧ fRC σ a 153 = some b ∧ TyC σ b 100 ∧ alC σ b = 31 ∧ ghC σ b = 0 := by sorry
theorem cg154 {σ : CsC} {a : Nat} (h : HI0 σ) (t : TyC σ a 5) : ∃ b, gtC σ a 154 = .inr (.inr (some b)) ∧ fRC σ a 154 = some b ∧ TyC σ b 100 ∧ alC σ b = 630 ∧ ghC σ b = 0 := by sorry
theorem cg155 {σ : CsC} {a : Nat} (h : HI0 σ) (t : TyC σ a 5) : ∃ b, gtC σ a 155 = .inr (.inr (some b)) ∧ fRC σ a 155 = some b ∧ TyC σ b 102 ∧ alC σ b = 630 ∧ ghC σ b = 0 := by sorry
theorem cg156 {σ : CsC} {a : Nat} (h : HI0 σ) (t : TyC σ a 5) : ∃ b, gtC σ a 156 = .inr (.inr (some b)) ∧ fRC σ a 156 = some b ∧ TyC σ b 105 ∧ alC σ b = 630 := by sorry
theorem cg157 {σ : CsC} {a : Nat} (h : HI0 σ) (t : TyC σ a 5) : ∃ b, gtC σ a 157 = .inr (.inr (some b)) ∧ fRC σ a 157 = some b ∧ TyC σ b 102 ∧ alC σ b = 200 ∧ ghC σ b = 0 := by sorry
theorem cg158 {σ : CsC} {a : Nat} (h : HI0 σ) (t : TyC σ a 5) : ∃ b, gtC σ a 158 = .inr (.inr (some b)) ∧ fRC σ a 158 = some b ∧ TyC σ b 1 := by sorry
theorem cg159 {σ : CsC} {a : Nat} (h : HI0 σ) (t : TyC σ a 5) : ∃ b, gtC σ a 159 = .inr (.inr (some b)) ∧ fRC σ a 159 = some b ∧ TyC σ b 100 ∧ ghC σ b = 0 := by sorry
theorem cg160 {σ : CsC} {a : Nat} (h : HI0 σ) (t : TyC σ a 5) : ∃ x, gtC σ a 160 = .inl x ∧ fIC σ a 160 = x ∧ (-2147483648) ≤ x.toInt ∧ x.toInt ≤ 2147483647 := ⟨_, rfl, rfl, ((h a t.1).1 160 (by rw [t.2.1])).1⟩
theorem cg161 {σ : CsC} {a : Nat} (h : HI0 σ) (t : TyC σ a 5) : ∃ x, gtC σ a 161 = .inl x ∧ fIC σ a 161 = x ∧ (-2147483648) ≤ x.toInt ∧ x.toInt ≤ 2147483647 := ⟨_, rfl, rfl, ((h a t.1).1 161 (by rw [t.2.1])).1⟩
theorem cg162 {σ : CsC} {a : Nat} (h : HI0 σ) (t : TyC σ a 5) : ∃ x, gtC σ a 162 = .inl x ∧ fIC σ a 162 = x ∧ 0 ≤ x.toInt ∧ x.toInt ≤ 7500 := ⟨_, rfl, rfl, ((h a t.1).1 162 (by rw [t.2.1])).1⟩
theorem cg163 {σ : CsC} {a : Nat} (h : HI0 σ) (t : TyC σ a 5) : ∃ x, gtC σ a 163 = .inl x ∧ fIC σ a 163 = x ∧ 0 ≤ x.toInt ∧ x.toInt ≤ 30 := ⟨_, rfl, rfl, ((h a t.1).1 163 (by rw [t.2.1])).1⟩
theorem cg164 {σ : CsC} {a : Nat} (h : HI0 σ) (t : TyC σ a 5) : ∃ x, gtC σ a 164 = .inl x ∧ fIC σ a 164 = x ∧ (-2147483648) ≤ x.toInt ∧ x.toInt ≤ 20000 := ⟨_, rfl, rfl, ((h a t.1).1 164 (by rw [t.2.1])).1⟩
theorem cg165 {σ : CsC} {a : Nat} (h : HI0 σ) (t : TyC σ a 5) : ∃ x, gtC σ a 165 = .inl x ∧ fIC σ a 165 = x ∧ 0 ≤ x.toInt ∧ x.toInt ≤ 20000 := ⟨_, rfl, rfl, ((h a t.1).1 165 (by rw [t.2.1])).1⟩
theorem cg166 {σ : CsC} {a : Nat} (h : HI0 σ) (t : TyC σ a 5) : ∃ x, gtC σ a 166 = .inl x ∧ fIC σ a 166 = x ∧ 0 ≤ x.toInt ∧ x.toInt ≤ 200 := ⟨_, rfl, rfl, ((h a t.1).1 166 (by rw [t.2.1])).1⟩
theorem cg167 {σ : CsC} {a : Nat} (h : HI0 σ) (t : TyC σ a 5) : ∃ x, gtC σ a 167 = .inl x ∧ fIC σ a 167 = x ∧ 0 ≤ x.toInt ∧ x.toInt ≤ 20000 := ⟨_, rfl, rfl, ((h a t.1).1 167 (by rw [t.2.1])).1⟩
theorem cg168 {σ : CsC} {a : Nat} (h : HI0 σ) (t : TyC σ a 5) : ∃ x, gtC σ a 168 = .inl x ∧ fIC σ a 168 = x ∧ (-2147483648) ≤ x.toInt ∧ x.toInt ≤ 2147483647 := ⟨_, rfl, rfl, ((h a t.1).1 168 (by rw [t.2.1])).1⟩
theorem cg169 {σ : CsC} {a : Nat} (h : HI0 σ) (t : TyC σ a 5) : ∃ x, gtC σ a 169 = .inl x ∧ fIC σ a 169 = x ∧ (-2147483648) ≤ x.toInt ∧ x.toInt ≤ 2147483647 := ⟨_, rfl, rfl, ((h a t.1).1 169 (by rw [t.2.1])).1⟩
theorem cg170 {σ : CsC} {a : Nat} : ∃ x, gtC σ a 170 = .inr (.inl x) ∧ fLC σ a 170 = x := ⟨_, rfl, rfl⟩
theorem cg180 {σ : CsC} {a : Nat} (h : HI0 σ) (t : TyC σ a 6) : ∃ x, gtC σ a 180 = .inl x ∧ fIC σ a 180 = x ∧ (-1) ≤ x.toInt ∧ x.toInt ≤ 502 := ⟨_, rfl, rfl, ((h a t.1).1 180 (by rw [t.2.1])).1⟩
theorem cg181 {σ : CsC} {a : Nat} : ∃ x, gtC σ a 181 = .inr (.inl x) ∧ fLC σ a 181 = x := ⟨_, rfl, rfl⟩
theorem cg182 {σ : CsC} {a : Nat} (h : HI0 σ) (t : TyC σ a 6) : ∃ x, gtC σ a 182 = .inl x ∧ fIC σ a 182 = x ∧ (-2147483648) ≤ x.toInt ∧ x.toInt ≤ 2147483647 := ⟨_, rfl, rfl, ((h a t.1).1 182 (by rw [t.2.1])).1⟩
theorem cg183 {σ : CsC} {a : Nat} (h : HI0 σ) (t : TyC σ a 6) : ∃ b, gtC σ a 183 = .inr (.inr (some b)) ∧ fRC σ a 183 = some b ∧ TyC σ b 100 ∧ alC σ b = 6 ∧ ghC σ b = 7 := by sorry
theorem cg184 {σ : CsC} {a : Nat} (h : HI0 σ) (t : TyC σ a 6) : ∃ x, gtC σ a 184 = .inl x ∧ fIC σ a 184 = x ∧ (-2147483648) ≤ x.toInt ∧ x.toInt ≤ 2147483647 := ⟨_, rfl, rfl, ((h a t.1).1 184 (by rw [t.2.1])).1⟩
theorem cg185 {σ : CsC} {a : Nat} (h : HI0 σ) (t : TyC σ a 6) : ∃ x, gtC σ a 185 = .inl x ∧ fIC σ a 185 = x ∧ 0 ≤ x.toInt ∧ x.toInt ≤ 6 := ⟨_, rfl, rfl, ((h a t.1).1 185 (by rw [t.2.1])).1⟩
theorem cg186 {σ : CsC} {a : Nat} (h : HI0 σ) (t : TyC σ a 6) : ∃ b, gtC σ a 186 = .inr (.inr (some b)) ∧ fRC σ a 186 = some b ∧ TyC σ b 9 ∧ (fIC σ b 270).toInt = 92 := by sorry
theorem cg210 {σ : CsC} {a : Nat} (h : HI0 σ) (t : TyC σ a 7) : ∃ b, gtC σ a 210 = .inr (.inr (some b)) ∧ fRC σ a 210 = some b ∧ TyC σ b 10 := by sorry
theorem cg211 {σ : CsC} {a : Nat} (h : HI0 σ) (t : TyC σ a 7) : ∃ b, gtC σ a 211 = .inr (.inr (some b)) ∧ fRC σ a 211 = some b ∧ TyC σ b 0 ∧ ghC σ b = 6 := by sorry
theorem cg212 {σ : CsC} {a : Nat} (h : HI0 σ) (t : TyC σ a 7) : ∃ b, gtC σ a 212 = .inr (.inr (some b)) ∧ fRC σ a 212 = some b ∧ TyC σ b 0 ∧ ghC σ b = 11 := by sorry
theorem cg213 {σ : CsC} {a : Nat} (h : HI0 σ) (t : TyC σ a 7) : ∃ b, gtC σ a 213 = .inr (.inr (some b)) ∧ fRC σ a 213 = some b ∧ TyC σ b 0 ∧ ghC σ b = 2 := by sorry
theorem cg214 {σ : CsC} {a : Nat} (h : HI0 σ) (t : TyC σ a 7) : ∃ b, gtC σ a 214 = .inr (.inr (some b)) ∧ fRC σ a 214 = some b ∧ TyC σ b 0 ∧ ghC σ b = 9 := by sorry
theorem cg215 {σ : CsC} {a : Nat} (h : HI0 σ) (t : TyC σ a 7) : ∃ b, gtC σ a 215 = .inr (.inr (some b)) ∧ fRC σ a 215 = some b ∧ TyC σ b 6 := by sorry
theorem cg216 {σ : CsC} {a : Nat} (h : HI0 σ) (t : TyC σ a 7) : ∃ b, gtC σ a 216 = .inr (.inr (some b)) ∧ fRC σ a 216 = some b ∧ TyC σ b 6 := by sorry
theorem cg217 {σ : CsC} {a : Nat} (h : HI0 σ) (t : TyC σ a 7) : ∃ x, gtC σ a 217 = .inl x ∧ fIC σ a 217 = x ∧ (-2147483648) ≤ x.toInt ∧ x.toInt ≤ 2147483647 := ⟨_, rfl, rfl, ((h a t.1).1 217 (by rw [t.2.1])).1⟩
theorem cg218 {σ : CsC} {a : Nat} (h : HI0 σ) (t : TyC σ a 7) : ∃ x, gtC σ a 218 = .inl x ∧ fIC σ a 218 = x ∧ (-2147483648) ≤ x.toInt ∧ x.toInt ≤ 2147483647 := ⟨_, rfl, rfl, ((h a t.1).1 218 (by rw [t.2.1])).1⟩
theorem cg240 {σ : CsC} {a : Nat} (h : HI0 σ) (t : TyC σ a 8) : ∃ b, gtC σ a 240 = .inr (.inr (some b)) ∧ fRC σ a 240 = some b ∧ TyC σ b 7 := by sorry
theorem cg241 {σ : CsC} {a : Nat} (h : HI0 σ) (t : TyC σ a 8) : ∃ b, gtC σ a 241 = .inr (.inr (some b)) ∧ fRC σ a 241 = some b ∧ TyC σ b 10 := by sorry
theorem cg242 {σ : CsC} {a : Nat} (h : HI0 σ) (t : TyC σ a 8) : ∃ x, gtC σ a 242 = .inl x ∧ fIC σ a 242 = x ∧ 0 ≤ x.toInt ∧ x.toInt ≤ 500 := ⟨_, rfl, rfl, ((h a t.1).1 242 (by rw [t.2.1])).1⟩
theorem cg243 {σ : CsC} {a : Nat} (h : HI0 σ) (t : TyC σ a 8) : ∃ x, gtC σ a 243 = .inl x ∧ fIC σ a 243 = x ∧ 0 ≤ x.toInt ∧ x.toInt ≤ 3 := ⟨_, rfl, rfl, ((h a t.1).1 243 (by rw [t.2.1])).1⟩
theorem cg244 {σ : CsC} {a : Nat} (h : HI0 σ) (t : TyC σ a 8) : ∃ x, gtC σ a 244 = .inl x ∧ fIC σ a 244 = x ∧ (-2147483648) ≤ x.toInt ∧ x.toInt ≤ 2147483647 := ⟨_, rfl, rfl, ((h a t.1).1 244 (by rw [t.2.1])).1⟩
theorem cg245 {σ : CsC} {a : Nat} : ∃ x, gtC σ a 245 = .inr (.inl x) ∧ fLC σ a 245 = x := ⟨_, rfl, rfl⟩
theorem cg246 {σ : CsC} {a : Nat} (h : HI0 σ) (t : TyC σ a 8) : ∃ o, gtC σ a 246 = .inr (.inr o) ∧ fRC σ a 246 = o ∧ OtC σ o 9 := by sorry
theorem cg270 {σ : CsC} {a : Nat} (h : HI0 σ) (t : TyC σ a 9) : ∃ x, gtC σ a 270 = .inl x ∧ fIC σ a 270 = x ∧ (-2147483648) ≤ x.toInt ∧ x.toInt ≤ 2147483647 := ⟨_, rfl, rfl, ((h a t.1).1 270 (by rw [t.2.1])).1⟩
theorem cg271 {σ : CsC} {a : Nat} (h : HI0 σ) (t : TyC σ a 9) : ∃ x, gtC σ a 271 = .inl x ∧ fIC σ a 271 = x ∧ 0 ≤ x.toInt ∧ x.toInt ≤ 502 := ⟨_, rfl, rfl, ((h a t.1).1 271 (by rw [t.2.1])).1⟩
theorem cg272 {σ : CsC} {a : Nat} (h : HI0 σ) (t : TyC σ a 9) : ∃ x, gtC σ a 272 = .inl x ∧ fIC σ a 272 = x ∧ 0 ≤ x.toInt ∧ x.toInt ≤ 22 := ⟨_, rfl, rfl, ((h a t.1).1 272 (by rw [t.2.1])).1⟩
theorem cg273 {σ : CsC} {a : Nat} (h : HI0 σ) (t : TyC σ a 9) : ∃ o, gtC σ a 273 = .inr (.inr o) ∧ fRC σ a 273 = o ∧ OtC σ o 9 ∧ (∀ b, o = some b → True ∧ b < a) := by sorry
theorem cg274 {σ : CsC} {a : Nat} : ∃ x, gtC σ a 274 = .inr (.inl x) ∧ fLC σ a 274 = x := ⟨_, rfl, rfl⟩
theorem cg275 {σ : CsC} {a : Nat} (h : HI0 σ) (t : TyC σ a 9) : ∃ o, gtC σ a 275 = .inr (.inr o) ∧ fRC σ a 275 = o ∧ OtC σ o 9 ∧ (∀ b, o = some b → True ∧ a < b ∧ NxC σ a b) := by sorry
theorem cg276 {σ : CsC} {a : Nat} (h : HI0 σ) (t : TyC σ a 9) : ∃ o, gtC σ a 276 = .inr (.inr o) ∧ fRC σ a 276 = o ∧ OtC σ o 9 ∧ (∀ b, o = some b → True ∧ a < b ∧ LvC σ a b) := by sorry
theorem cg277 {σ : CsC} {a : Nat} (h : HI0 σ) (t : TyC σ a 9) : ∃ o, gtC σ a 277 = .inr (.inr o) ∧ fRC σ a 277 = o ∧ OtC σ o 9 ∧ (∀ b, o = some b → True ∧ a < b ∧ LvC σ a b) := by sorry
theorem cg278 {σ : CsC} {a : Nat} (h : HI0 σ) (t : TyC σ a 9) : ∃ o, gtC σ a 278 = .inr (.inr o) ∧ fRC σ a 278 = o ∧ OtC σ o 9 ∧ (∀ b, o = some b → True ∧ a < b ∧ LvC σ a b) := by sorry
theorem cg279 {σ : CsC} {a : Nat} (h : HI0 σ) (t : TyC σ a 9) : ∃ o, gtC σ a 279 = .inr (.inr o) ∧ fRC σ a 279 = o ∧ OtC σ o 2 := by sorry
theorem cg280 {σ : CsC} {a : Nat} (h : HI0 σ) (t : TyC σ a 9) : ∃ x, gtC σ a 280 = .inl x ∧ fIC σ a 280 = x ∧ (-1) ≤ x.toInt ∧ x.toInt ≤ 502 := ⟨_, rfl, rfl, ((h a t.1).1 280 (by rw [t.2.1])).1⟩
theorem cg281 {σ : CsC} {a : Nat} (h : HI0 σ) (t : TyC σ a 9) : ∃ o, gtC σ a 281 = .inr (.inr o) ∧ fRC σ a 281 = o ∧ OtC σ o 9 := by sorry
theorem cg282 {σ : CsC} {a : Nat} (h : HI0 σ) (t : TyC σ a 9) : ∃ x, gtC σ a 282 = .inl x ∧ fIC σ a 282 = x ∧ 0 ≤ x.toInt ∧ x.toInt ≤ 1 := ⟨_, rfl, rfl, ((h a t.1).1 282 (by rw [t.2.1])).1⟩
theorem cg283 {σ : CsC} {a : Nat} (h : HI0 σ) (t : TyC σ a 9) : ∃ x, gtC σ a 283 = .inl x ∧ fIC σ a 283 = x ∧ 0 ≤ x.toInt ∧ x.toInt ≤ 1 := ⟨_, rfl, rfl, ((h a t.1).1 283 (by rw [t.2.1])).1⟩
theorem cg284 {σ : CsC} {a : Nat} (h : HI0 σ) (t : TyC σ a 9) : ∃ x, gtC σ a 284 = .inl x ∧ fIC σ a 284 = x ∧ 0 ≤ x.toInt ∧ x.toInt ≤ 1 := ⟨_, rfl, rfl, ((h a t.1).1 284 (by rw [t.2.1])).1⟩
theorem cg285 {σ : CsC} {a : Nat} : ∃ x, gtC σ a 285 = .inr (.inl x) ∧ fLC σ a 285 = x := ⟨_, rfl, rfl⟩
theorem cg286 {σ : CsC} {a : Nat} : ∃ x, gtC σ a 286 = .inr (.inl x) ∧ fLC σ a 286 = x := ⟨_, rfl, rfl⟩
theorem cg287 {σ : CsC} {a : Nat} : ∃ x, gtC σ a 287 = .inr (.inl x) ∧ fLC σ a 287 = x := ⟨_, rfl, rfl⟩
theorem cg288 {σ : CsC} {a : Nat} : ∃ x, gtC σ a 288 = .inr (.inl x) ∧ fLC σ a 288 = x := ⟨_, rfl, rfl⟩
theorem cg289 {σ : CsC} {a : Nat} (h : HI0 σ) (t : TyC σ a 9) : ∃ x, gtC σ a 289 = .inl x ∧ fIC σ a 289 = x ∧ (-2147483648) ≤ x.toInt ∧ x.toInt ≤ 2147483647 := ⟨_, rfl, rfl, ((h a t.1).1 289 (by rw [t.2.1])).1⟩
theorem cg290 {σ : CsC} {a : Nat} (h : HI0 σ) (t : TyC σ a 9) : ∃ x, gtC σ a 290 = .inl x ∧ fIC σ a 290 = x ∧ (-2147483648) ≤ x.toInt ∧ x.toInt ≤ 2147483647 := ⟨_, rfl, rfl, ((h a t.1).1 290 (by rw [t.2.1])).1⟩
theorem cg300 {σ : CsC} {a : Nat} (h : HI0 σ) (t : TyC σ a 10) : ∃ b, gtC σ a 300 = .inr (.inr (some b)) ∧ fRC σ a 300 = some b ∧ TyC σ b 100 ∧ alC σ b = 503 ∧ ghC σ b = 3 := by sorry
theorem cg301 {σ : CsC} {a : Nat} (h : HI0 σ) (t : TyC σ a 10) : ∃ b, gtC σ a 301 = .inr (.inr (some b)) ∧ fRC σ a 301 = some b ∧ TyC σ b 100 ∧ alC σ b = 503 ∧ ghC σ b = 4 := by sorry
theorem cg302 {σ : CsC} {a : Nat} (h : HI0 σ) (t : TyC σ a 10) : ∃ b, gtC σ a 302 = .inr (.inr (some b)) ∧ fRC σ a 302 = some b ∧ TyC σ b 100 ∧ alC σ b = 503 ∧ ghC σ b = 2 := by sorry
theorem cg303 {σ : CsC} {a : Nat} (h : HI0 σ) (t : TyC σ a 10) : ∃ b, gtC σ a 303 = .inr (.inr (some b)) ∧ fRC σ a 303 = some b ∧ TyC σ b 100 ∧ alC σ b = 503 ∧ ghC σ b = 0 := by sorry
theorem cg304 {σ : CsC} {a : Nat} (h : HI0 σ) (t : TyC σ a 10) : ∃ b, gtC σ a 304 = .inr (.inr (some b)) ∧ fRC σ a 304 = some b ∧ TyC σ b 102 ∧ alC σ b = 503 ∧ ghC σ b = 0 := by sorry
theorem cg305 {σ : CsC} {a : Nat} (h : HI0 σ) (t : TyC σ a 10) : ∃ x, gtC σ a 305 = .inl x ∧ fIC σ a 305 = x ∧ 0 ≤ x.toInt ∧ x.toInt ≤ 501 := ⟨_, rfl, rfl, ((h a t.1).1 305 (by rw [t.2.1])).1⟩
theorem cg306 {σ : CsC} {a : Nat} (h : HI0 σ) (t : TyC σ a 10) : ∃ b, gtC σ a 306 = .inr (.inr (some b)) ∧ fRC σ a 306 = some b ∧ TyC σ b 102 ∧ alC σ b = 24 ∧ ghC σ b = 5 := by sorry
theorem cg307 {σ : CsC} {a : Nat} (h : HI0 σ) (t : TyC σ a 10) : ∃ b, gtC σ a 307 = .inr (.inr (some b)) ∧ fRC σ a 307 = some b ∧ TyC σ b 101 := by sorry
theorem cg308 {σ : CsC} {a : Nat} (h : HI0 σ) (t : TyC σ a 10) : ∃ x, gtC σ a 308 = .inl x ∧ fIC σ a 308 = x ∧ 0 ≤ x.toInt ∧ x.toInt ≤ 2147483647 := ⟨_, rfl, rfl, ((h a t.1).1 308 (by rw [t.2.1])).1⟩
theorem cg330 {σ : CsC} {a : Nat} (h : HI0 σ) (t : TyC σ a 11) : ∃ x, gtC σ a 330 = .inl x ∧ fIC σ a 330 = x ∧ 0 ≤ x.toInt ∧ x.toInt ≤ 502 := ⟨_, rfl, rfl, ((h a t.1).1 330 (by rw [t.2.1])).1⟩
theorem cg331 {σ : CsC} {a : Nat} (h : HI0 σ) (t : TyC σ a 11) : ∃ x, gtC σ a 331 = .inl x ∧ fIC σ a 331 = x ∧ (-2147483648) ≤ x.toInt ∧ x.toInt ≤ 2147483647 := ⟨_, rfl, rfl, ((h a t.1).1 331 (by rw [t.2.1])).1⟩
theorem cg332 {σ : CsC} {a : Nat} (h : HI0 σ) (t : TyC σ a 11) : ∃ x, gtC σ a 332 = .inl x ∧ fIC σ a 332 = x ∧ 0 ≤ x.toInt ∧ x.toInt ≤ 1 := ⟨_, rfl, rfl, ((h a t.1).1 332 (by rw [t.2.1])).1⟩
theorem cg333 {σ : CsC} {a : Nat} (h : HI0 σ) (t : TyC σ a 11) : ∃ x, gtC σ a 333 = .inl x ∧ fIC σ a 333 = x ∧ (-2147483648) ≤ x.toInt ∧ x.toInt ≤ 2147483647 := ⟨_, rfl, rfl, ((h a t.1).1 333 (by rw [t.2.1])).1⟩
theorem cg334 {σ : CsC} {a : Nat} (h : HI0 σ) (t : TyC σ a 11) : ∃ x, gtC σ a 334 = .inl x ∧ fIC σ a 334 = x ∧ 0 ≤ x.toInt ∧ x.toInt ≤ 1 := ⟨_, rfl, rfl, ((h a t.1).1 334 (by rw [t.2.1])).1⟩
theorem cg335 {σ : CsC} {a : Nat} (h : HI0 σ) (t : TyC σ a 11) : ∃ x, gtC σ a 335 = .inl x ∧ fIC σ a 335 = x ∧ 0 ≤ x.toInt ∧ x.toInt ≤ 1 := ⟨_, rfl, rfl, ((h a t.1).1 335 (by rw [t.2.1])).1⟩
theorem cg336 {σ : CsC} {a : Nat} : ∃ x, gtC σ a 336 = .inr (.inl x) ∧ fLC σ a 336 = x := ⟨_, rfl, rfl⟩
theorem cg360 {σ : CsC} {a : Nat} (h : HI0 σ) (t : TyC σ a 12) : ∃ b, gtC σ a 360 = .inr (.inr (some b)) ∧ fRC σ a 360 = some b ∧ TyC σ b 101 ∧ alC σ b = 2500 := by sorry
theorem cg361 {σ : CsC} {a : Nat} (h : HI0 σ) (t : TyC σ a 12) : ∃ b, gtC σ a 361 = .inr (.inr (some b)) ∧ fRC σ a 361 = some b ∧ TyC σ b 100 ∧ alC σ b = 40 ∧ ghC σ b = 0 := by sorry
theorem cg362 {σ : CsC} {a : Nat} (h : HI0 σ) (t : TyC σ a 12) : ∃ b, gtC σ a 362 = .inr (.inr (some b)) ∧ fRC σ a 362 = some b ∧ TyC σ b 102 ∧ alC σ b = 6 ∧ ghC σ b = 0 := by sorry
theorem cg363 {σ : CsC} {a : Nat} (h : HI0 σ) (t : TyC σ a 12) : ∃ b, gtC σ a 363 = .inr (.inr (some b)) ∧ fRC σ a 363 = some b ∧ TyC σ b 7 := by sorry
theorem cg364 {σ : CsC} {a : Nat} (h : HI0 σ) (t : TyC σ a 12) : ∃ b, gtC σ a 364 = .inr (.inr (some b)) ∧ fRC σ a 364 = some b ∧ TyC σ b 7 := by sorry
theorem cg365 {σ : CsC} {a : Nat} (h : HI0 σ) (t : TyC σ a 12) : ∃ b, gtC σ a 365 = .inr (.inr (some b)) ∧ fRC σ a 365 = some b ∧ TyC σ b 8 := by sorry
theorem cg366 {σ : CsC} {a : Nat} (h : HI0 σ) (t : TyC σ a 12) : ∃ b, gtC σ a 366 = .inr (.inr (some b)) ∧ fRC σ a 366 = some b ∧ TyC σ b 4 := by sorry
theorem cg367 {σ : CsC} {a : Nat} (h : HI0 σ) (t : TyC σ a 12) : ∃ b, gtC σ a 367 = .inr (.inr (some b)) ∧ fRC σ a 367 = some b ∧ TyC σ b 1 := by sorry
theorem cg368 {σ : CsC} {a : Nat} (h : HI0 σ) (t : TyC σ a 12) : ∃ b, gtC σ a 368 = .inr (.inr (some b)) ∧ fRC σ a 368 = some b ∧ TyC σ b 5 := by sorry
theorem cg369 {σ : CsC} {a : Nat} (h : HI0 σ) (t : TyC σ a 12) : ∃ x, gtC σ a 369 = .inl x ∧ fIC σ a 369 = x ∧ 0 ≤ x.toInt ∧ x.toInt ≤ 2500 := ⟨_, rfl, rfl, ((h a t.1).1 369 (by rw [t.2.1])).1⟩
theorem cg370 {σ : CsC} {a : Nat} (h : HI0 σ) (t : TyC σ a 12) : ∃ x, gtC σ a 370 = .inl x ∧ fIC σ a 370 = x ∧ 0 ≤ x.toInt ∧ x.toInt ≤ 40 := ⟨_, rfl, rfl, ((h a t.1).1 370 (by rw [t.2.1])).1⟩
theorem cg371 {σ : CsC} {a : Nat} (h : HI0 σ) (t : TyC σ a 12) : ∃ x, gtC σ a 371 = .inl x ∧ fIC σ a 371 = x ∧ (-2147483648) ≤ x.toInt ∧ x.toInt ≤ 2147483647 := ⟨_, rfl, rfl, ((h a t.1).1 371 (by rw [t.2.1])).1⟩
theorem cg372 {σ : CsC} {a : Nat} (h : HI0 σ) (t : TyC σ a 12) : ∃ x, gtC σ a 372 = .inl x ∧ fIC σ a 372 = x ∧ 0 ≤ x.toInt ∧ x.toInt ≤ 1 := ⟨_, rfl, rfl, ((h a t.1).1 372 (by rw [t.2.1])).1⟩
theorem cg75 {σ : CsC} {a : Nat} (h : HI0 σ) (t : TyC σ a 2) : ∃ o, gtC σ a 75 = .inr (.inr o) ∧ fRC σ a 75 = o ∧ OtC σ o 2 ∧ (∀ b, o = some b → True ∧ a < b) := by sorry
/-! what holds of the heap stays -/
theorem fI_pI {σ : CsC} {a k b j : Nat} {v : Int32} (h : j ≠ k ∨ b ≠ a) : fIC (pIC σ a k v) b j = fIC σ b j := h.elim (fun q => u2C_nk q) (fun q => u2C_na q)
theorem fI_pIs {σ : CsC} {a k : Nat} {v : Int32} : fIC (pIC σ a k v) a k = v := u2C_eq
theorem fR_pR {σ : CsC} {a k b j : Nat} {v : Option Nat} (h : j ≠ k ∨ b ≠ a) : fRC (pRC σ a k v) b j = fRC σ b j := h.elim (fun q => u2C_nk q) (fun q => u2C_na q)
theorem fR_pRs {σ : CsC} {a k : Nat} {v : Option Nat} : fRC (pRC σ a k v) a k = v := u2C_eq
set_option maxRecDepth 100000 in
theorem IvC_any {k : Nat} {x : Int32} (h : 390 ≤ k) : IvC k x := by sorry
set_option maxRecDepth 100000 in
theorem RfC_any {σ : CsC} {a k : Nat} {o : Option Nat} (h : 390 ≤ k) : RfC σ a k o := by sorry
theorem ExC.pI {M : List Nat} {σ : CsC} {a k : Nat} {v : Int32} (hm : M.elem k = true) (hf : 13 ≤ tgC σ a ∨ finC k = false) : ExC M σ (pIC σ a k v) := by sorry
theorem ExC.pL {M : List Nat} {σ : CsC} {a k : Nat} {v : Int64} : ExC M σ (pLC σ a k v) := by sorry
theorem ExC.pR {M : List Nat} {σ : CsC} {a k : Nat} {v : Option Nat} (hm : M.elem k = true) (hf : 13 ≤ tgC σ a ∨ finC k = false) (hw : 13 ≤ tgC σ a ∨ k ≠ 73 ∨ v ≠ none) : ExC M σ (pRC σ a k v) := by sorry
theorem ExC.qI {M : List Nat} {σ : CsC} {a : Nat} {f : Nat → Int32} (hg : prC M (tgC σ a) (ghC σ a) = false) : ExC M σ (qIC σ a f) := by sorry
theorem ExC.qL {M : List Nat} {σ : CsC} {a : Nat} {f : Nat → Int64} (hg : prC M (tgC σ a) (ghC σ a) = false) : ExC M σ (qLC σ a f) := by sorry
theorem ExC.qR {M : List Nat} {σ : CsC} {a : Nat} {f : Nat → Option Nat} (hq : tgC σ a = 103 → M.elem 2 = true) : ExC M σ (qRC σ a f) := by sorry
theorem ExC.nO {M : List Nat} {σ : CsC} {t N g : Nat} (hm : M.elem 999 = true) : ExC M σ (nOC σ t N g) := by sorry
theorem ExC.nA {M : List Nat} {σ : CsC} {t n g : Nat} (hm : M.elem 999 = true) : ExC M σ (nAC σ t n g) := by sorry
theorem HI0.ty9 {σ : CsC} {a b k : Nat} (h : HI0 σ) (ha : a < cnC σ) (ht : tgC σ a = 9) (hk : k = 275 ∨ k = 276 ∨ k = 277 ∨ k = 278) (e : fRC σ a k = some b) : TyC σ b 9 := by sorry
/-- what is said of an object beside its fields' own bounds -/
theorem XaC.mono {M : List Nat} {σ τ : CsC} {a : Nat} (h : HI0 σ) (e : ExC M σ τ) (ha : a < cnC σ)
    (hI : ∀ k, [2, 160, 165, 167, 308].elem k = true → k / 30 = tgC σ a → fIC τ a k = fIC σ a k)
    (hR : ∀ k, [1, 73, 75, 159, 186, 275, 276, 277, 278, 307].elem k = true → k / 30 = tgC σ a → fRC τ a k = fRC σ a k)
    (hE : ∀ r, r < cnC σ → tgC σ r = 103 → eRC τ r = eRC σ r) (hEi : tgC σ a = 100 → eIC τ a = eIC σ a) (hEr : tgC σ a = 104 ∨ tgC σ a = 105 → eRC τ a = eRC σ a) : XaC τ a := by sorry
theorem HI0.ex {M : List Nat} {σ τ : CsC} (h : HI0 σ) (e : ExC M σ τ) (hn : ∀ a, cnC σ ≤ a → a < cnC τ → (∀ k, k / 30 = tgC τ a → IvC k (fIC τ a k) ∧ RfC τ a k (fRC τ a k)) ∧ XaC τ a)
    (hf : ∀ a k, a < cnC σ → k / 30 = tgC σ a → (fIC τ a k = fIC σ a k ∨ IvC k (fIC τ a k)) ∧ (fRC τ a k = fRC σ a k ∨ RfC σ a k (fRC τ a k))) (hx : ∀ a, a < cnC σ → XaC τ a) : HI0 τ := by sorry
theorem HI0.pI {σ : CsC} {a k c : Nat} {v : Int32} (h : HI0 σ) (t : TyC σ a c) (hk : [2, 160, 165, 167, 308].elem k = false) (hf : finC k = false) (hv : IvC k v) : HI0 (pIC σ a k v) := by sorry
theorem HI0.pIr {σ : CsC} {a k : Nat} {v : Int32} (h : HI0 σ) (ht : 13 ≤ tgC σ a) : HI0 (pIC σ a k v) := by sorry
theorem HI0.pL {σ : CsC} {a k : Nat} {v : Int64} (h : HI0 σ) : HI0 (pLC σ a k v) := by sorry
theorem HI0.pR {σ : CsC} {a k c : Nat} {v : Option Nat} (h : HI0 σ) (t : TyC σ a c) (hk : [1, 73, 75, 159, 186, 275, 276, 277, 278, 307].elem k = false) (hf : finC k = false) (hv : RfC σ a k v) : HI0 (pRC σ a k v) := by sorry
theorem HI0.pRr {σ : CsC} {a k : Nat} {v : Option Nat} (h : HI0 σ) (ht : 13 ≤ tgC σ a) : HI0 (pRC σ a k v) := by sorry
theorem HI0.qI {σ : CsC} {a : Nat} {f : Nat → Int32} (h : HI0 σ) (hv : ghC σ a = 1 → ∀ j, 0 ≤ (f j).toInt ∧ (f j).toInt ≤ 7500) : HI0 (qIC σ a f) := by sorry
theorem HI0.qL {σ : CsC} {a : Nat} {f : Nat → Int64} (h : HI0 σ) : HI0 (qLC σ a f) := by sorry
theorem HI0.qR {σ : CsC} {a t : Nat} {f : Nat → Option Nat} (h : HI0 σ) (ht : tgC σ a = t) (h1 : t = 104 ∨ t = 105) (hv : ∀ j b, f j = some b → TyC σ b (if t = 104 then 2 else 9)) : HI0 (qRC σ a f) := by sorry
theorem HI0.nO {σ : CsC} {t N g : Nat} (h : HI0 σ) (ht : 50 ≤ t) (ht2 : t < 100) : HI0 (nOC σ t N g) := by sorry
theorem HI0.nA {σ : CsC} {t n g : Nat} (h : HI0 σ) (ht : 100 ≤ t) : HI0 (nAC σ t n g) := by sorry
theorem LbC.ex {M : List Nat} {σ τ : CsC} {x : Option Nat} (h : LbC σ x) (e : ExC M σ τ) (hn : ∀ a, cnC σ ≤ a → a < cnC τ → tgC τ a ≠ 9) (hk : M.elem 280 = false) : LbC τ x := by sorry
theorem LbC.sm {σ τ : CsC} {x : Option Nat} (h : LbC σ x) (e0 : τ.1 = σ.1) (e1 : ∀ a, a < cnC σ → tgC τ a = tgC σ a) (e2 : ∀ a, a < cnC σ → tgC σ a = 9 → fIC τ a 270 = fIC σ a 270 ∧ fIC τ a 280 = fIC σ a 280) : LbC τ x := by sorry
theorem HIC.pI {σ : CsC} {a k c : Nat} {v : Int32} (h : HIC σ) (t : TyC σ a c) (hk : [2, 160, 165, 167, 308, 280].elem k = false) (hf : finC k = false) (hv : IvC k v) : HIC (pIC σ a k v) := by sorry
theorem HIC.pIr {σ : CsC} {a k : Nat} {v : Int32} (h : HIC σ) (ht : 13 ≤ tgC σ a) : HIC (pIC σ a k v) := by sorry
theorem HIC.p280 {σ : CsC} {a : Nat} {v : Int32} (h : HIC σ) (t : TyC σ a 9) (hv : IvC 280 v) (hl : (fIC σ a 270).toInt = 6 → 0 ≤ v.toInt) : HIC (pIC σ a 280 v) := by sorry
theorem HIC.lb {σ : CsC} {a : Nat} {x y : Int32} (h : HIC σ) (t : TyC σ a 9) (e1 : fIC σ a 270 = x) (h6 : x.toInt = 6) (e2 : fIC σ a 280 = y) : 0 ≤ y.toInt := by sorry
theorem HIC.pL {σ : CsC} {a k : Nat} {v : Int64} (h : HIC σ) : HIC (pLC σ a k v) := by sorry
theorem HIC.pR {σ : CsC} {a k c : Nat} {v : Option Nat} (h : HIC σ) (t : TyC σ a c) (hk : [1, 73, 75, 159, 186, 275, 276, 277, 278, 307].elem k = false) (hf : finC k = false) (hv : RfC σ a k v) : HIC (pRC σ a k v) := by sorry
theorem HIC.pRr {σ : CsC} {a k : Nat} {v : Option Nat} (h : HIC σ) (ht : 13 ≤ tgC σ a) : HIC (pRC σ a k v) := by sorry
theorem HIC.qI {σ : CsC} {a : Nat} {f : Nat → Int32} (h : HIC σ) (hv : ghC σ a ≠ 1) : HIC (qIC σ a f) := by sorry
theorem HIC.qI1 {σ : CsC} {a c i : Nat} {v : Int32} (h : HIC σ) (t : TyC σ a 100) (hg : ghC σ a = 1) (h0 : 0 ≤ v.toInt) (h1 : v.toInt ≤ 7500) : HIC (qIC σ a (upd (eIC σ a) i v)) := by sorry
theorem HIC.qB {σ : CsC} {a : Nat} {f : Nat → Int32} (h : HIC σ) (t : TyC σ a 101) : HIC (qIC σ a f) := by sorry
theorem HIC.qL {σ : CsC} {a : Nat} {f : Nat → Int64} (h : HIC σ) : HIC (qLC σ a f) := by sorry
theorem HIC.qR {σ : CsC} {a t c i : Nat} {o : Option Nat} (h : HIC σ) (ht : TyC σ a t) (hc : (t = 104 ∧ c = 2) ∨ (t = 105 ∧ c = 9)) (ho : OtC σ o c) : HIC (qRC σ a (va_up (eRC σ a) i o)) := by sorry
theorem HIC.nO {σ : CsC} {t N g : Nat} (h : HIC σ) (ht : 50 ≤ t) (ht2 : t < 100) : HIC (nOC σ t N g) := by sorry
theorem HIC.nA {σ : CsC} {t n g : Nat} (h : HIC σ) (ht : 100 ≤ t) : HIC (nAC σ t n g) := by sorry
/-! a rule for each instruction -/
def kgC (k c : Nat) : Bool := Nat.beq (k / 30) c && Nat.blt c 13
/-- a field that may be set freely -/
def kpC (k c : Nat) : Bool := Nat.beq (k / 30) c && (Nat.blt c 13 && (!finC k && (![2, 160, 165, 167, 308, 280].elem k && ![1, 73, 75, 159, 186, 275, 276, 277, 278, 307].elem k)))
theorem kgCob {σ : CsC} {a k c : Nat} (h : kgC k c = true) (t : TyC σ a c) : ObC σ a (k / 30) := by sorry
theorem kpCof {k c : Nat} (h : kpC k c = true) : kgC k c = true ∧ finC k = false ∧ [2, 160, 165, 167, 308, 280].elem k = false ∧ [1, 73, 75, 159, 186, 275, 276, 277, 278, 307].elem k = false := by sorry
theorem b01C {x : Int32} (h0 : 0 ≤ x.toInt) (h1 : x.toInt ≤ 1) : x = 0 ∨ x = 1 := by sorry
theorem inC_of {j : Int32} {n : Nat} (h0 : 0 ≤ j.toInt) (h1 : j.toInt < n) : vp_in j n := by sorry
section KR
variable {ct : CcC} {K : CkC} {Z : Option AvC → CsC → Prop} {is : List RI} {pc d b : Nat} {q : Int} {cs : List (Int × Nat)} {ls : ClC} {st : List AvC} {σ : CsC}
theorem k_nil (h : K pc ls st σ) : cwpC ct K Z [] pc ls st σ := h
theorem k_st {st' : List AvC} (e : st = st') (h : cwpC ct K Z is pc ls st' σ) : cwpC ct K Z is pc ls st σ := e ▸ h
theorem k_iconst {n m : Int} (e : (Int32.ofInt n).toInt = m) (h : ∀ x : Int32, x.toInt = m → cwpC ct K Z is (pc + 1) ls (.inl x :: st) σ) : cwpC ct K Z ((.iconst n, d, q, b, cs) :: is) pc ls st σ := h _ e
theorem k_bipush {n m : Int} (e : (Int32.ofInt n).toInt = m) (h : ∀ x : Int32, x.toInt = m → cwpC ct K Z is (pc + 2) ls (.inl x :: st) σ) : cwpC ct K Z ((.bipush n, d, q, b, cs) :: is) pc ls st σ := h _ e
theorem k_sipush {n m : Int} (e : (Int32.ofInt n).toInt = m) (h : ∀ x : Int32, x.toInt = m → cwpC ct K Z is (pc + 3) ls (.inl x :: st) σ) : cwpC ct K Z ((.sipush n, d, q, b, cs) :: is) pc ls st σ := h _ e
theorem k_ldcI {j : Nat} {m : Int} (e : (Int32.ofInt q).toInt = m) (h : ∀ x : Int32, x.toInt = m → cwpC ct K Z is (pc + 2) ls (.inl x :: st) σ) : cwpC ct K Z ((.ldc j, d, q, 0, cs) :: is) pc ls st σ := h _ e
theorem k_ldcR {j c : Nat} (e : Nat.beq c 0 = false) (h : cwpC ct K Z is (pc + 2) ls (.inr (.inr (some c)) :: st) σ) : cwpC ct K Z ((.ldc j, d, q, c, cs) :: is) pc ls st σ := by sorry
theorem k_lconst {n : Fin 2} (h : cwpC ct K Z is (pc + 1) ls (.inr (.inl (Int64.ofNat (n : Nat))) :: st) σ) : cwpC ct K Z ((.lconst n, d, q, b, cs) :: is) pc ls st σ := h
theorem k_ldc2_w {n : Nat} (h : cwpC ct K Z is (pc + 3) ls (.inr (.inl (Int64.ofInt q)) :: st) σ) : cwpC ct K Z ((.ldc2_w n, d, q, b, cs) :: is) pc ls st σ := h
theorem k_aconst_null (h : cwpC ct K Z is (pc + 1) ls (.inr (.inr none) :: st) σ) : cwpC ct K Z ((.aconst_null, d, q, b, cs) :: is) pc ls st σ := h
theorem k_iload_n {n : Fin 4} {v : Int32} (e : lkC ls b = some (.inl v)) (h : cwpC ct K Z is (pc + 1) ls (.inl v :: st) σ) : cwpC ct K Z ((.iload_n n, d, q, b, cs) :: is) pc ls st σ := by sorry
theorem k_iload {n : Nat} {v : Int32} (e : lkC ls n = some (.inl v)) (h : cwpC ct K Z is (pc + 2) ls (.inl v :: st) σ) : cwpC ct K Z ((.iload n, d, q, b, cs) :: is) pc ls st σ := by sorry
theorem k_lload_n {n : Fin 4} {v : Int64} (e : lkC ls b = some (.inr (.inl v))) (h : cwpC ct K Z is (pc + 1) ls (.inr (.inl v) :: st) σ) : cwpC ct K Z ((.lload_n n, d, q, b, cs) :: is) pc ls st σ := by sorry
theorem k_lload {n : Nat} {v : Int64} (e : lkC ls n = some (.inr (.inl v))) (h : cwpC ct K Z is (pc + 2) ls (.inr (.inl v) :: st) σ) : cwpC ct K Z ((.lload n, d, q, b, cs) :: is) pc ls st σ := by sorry
theorem k_aload_n {n : Fin 4} {v : Option Nat} (e : lkC ls b = some (.inr (.inr v))) (h : cwpC ct K Z is (pc + 1) ls (.inr (.inr v) :: st) σ) : cwpC ct K Z ((.aload_n n, d, q, b, cs) :: is) pc ls st σ := by sorry
theorem k_aload {n : Nat} {v : Option Nat} (e : lkC ls n = some (.inr (.inr v))) (h : cwpC ct K Z is (pc + 2) ls (.inr (.inr v) :: st) σ) : cwpC ct K Z ((.aload n, d, q, b, cs) :: is) pc ls st σ := by sorry
theorem k_istore_n {n : Fin 4} {v : Int32} {ls' : ClC} (e : s1C ls b (.inl v) = ls') (h : cwpC ct K Z is (pc + 1) ls' st σ) : cwpC ct K Z ((.istore_n n, d, q, b, cs) :: is) pc ls (.inl v :: st) σ := by sorry
theorem k_istore {n : Nat} {v : Int32} {ls' : ClC} (e : s1C ls n (.inl v) = ls') (h : cwpC ct K Z is (pc + 2) ls' st σ) : cwpC ct K Z ((.istore n, d, q, b, cs) :: is) pc ls (.inl v :: st) σ := by sorry
theorem k_lstore_n {n : Fin 4} {v : Int64} {ls' : ClC} (e : s2C ls b (.inr (.inl v)) = ls') (h : cwpC ct K Z is (pc + 1) ls' st σ) : cwpC ct K Z ((.lstore_n n, d, q, b, cs) :: is) pc ls (.inr (.inl v) :: st) σ := by sorry
theorem k_lstore {n : Nat} {v : Int64} {ls' : ClC} (e : s2C ls n (.inr (.inl v)) = ls') (h : cwpC ct K Z is (pc + 2) ls' st σ) : cwpC ct K Z ((.lstore n, d, q, b, cs) :: is) pc ls (.inr (.inl v) :: st) σ := by sorry
theorem k_astore_n {n : Fin 4} {v : Option Nat} {ls' : ClC} (e : s1C ls b (.inr (.inr v)) = ls') (h : cwpC ct K Z is (pc + 1) ls' st σ) : cwpC ct K Z ((.astore_n n, d, q, b, cs) :: is) pc ls (.inr (.inr v) :: st) σ := by sorry
theorem k_astore {n : Nat} {v : Option Nat} {ls' : ClC} (e : s1C ls n (.inr (.inr v)) = ls') (h : cwpC ct K Z is (pc + 2) ls' st σ) : cwpC ct K Z ((.astore n, d, q, b, cs) :: is) pc ls (.inr (.inr v) :: st) σ := by sorry
theorem tiC (x : Int32) : -2147483648 ≤ x.toInt ∧ x.toInt ≤ 2147483647 := ⟨Int32.le_toInt x, by have := Int32.toInt_lt x; omega⟩
theorem addC {x y : Int32} {m : Int} (e : x.toInt + y.toInt = m) (h1 : -2147483648 ≤ m) (h2 : m ≤ 2147483647) : (x + y).toInt = m := by sorry
theorem subC {x y : Int32} {m : Int} (e : x.toInt - y.toInt = m) (h1 : -2147483648 ≤ m) (h2 : m ≤ 2147483647) : (x - y).toInt = m := by sorry
theorem k_iinc {n : Nat} {i : Int} {v : Int32} {ls' : ClC} {w : Int32} (e : lkC ls n = some (.inl v)) (ew : v + Int32.ofInt i = w) (e' : s1C ls n (.inl w) = ls') (h : cwpC ct K Z is (pc + 3) ls' st σ) : cwpC ct K Z ((.iinc n i, d, q, b, cs) :: is) pc ls st σ := by sorry
theorem iincC {n : Int} {m : Int} {v : Int32} (e : (Int32.ofInt n).toInt = m) (h1 : -2147483648 ≤ v.toInt + m) (h2 : v.toInt + m ≤ 2147483647) : ∃ w, v + Int32.ofInt n = w ∧ w.toInt = v.toInt + m := ⟨_, rfl, addC (by rw [e]) h1 h2⟩
theorem k_iadd {x y : Int32} (h1 : -2147483648 ≤ x.toInt + y.toInt) (h2 : x.toInt + y.toInt ≤ 2147483647) (h : ∀ z : Int32, z.toInt = x.toInt + y.toInt → cwpC ct K Z is (pc + 1) ls (.inl z :: st) σ) : cwpC ct K Z ((.iadd, d, q, b, cs) :: is) pc ls (.inl y :: .inl x :: st) σ := h _ (addC rfl h1 h2)
theorem k_isub {x y : Int32} (h1 : -2147483648 ≤ x.toInt - y.toInt) (h2 : x.toInt - y.toInt ≤ 2147483647) (h : ∀ z : Int32, z.toInt = x.toInt - y.toInt → cwpC ct K Z is (pc + 1) ls (.inl z :: st) σ) : cwpC ct K Z ((.isub, d, q, b, cs) :: is) pc ls (.inl y :: .inl x :: st) σ := h _ (subC rfl h1 h2)
theorem k_iadd_u {x y : Int32} (h : ∀ z : Int32, cwpC ct K Z is (pc + 1) ls (.inl z :: st) σ) : cwpC ct K Z ((.iadd, d, q, b, cs) :: is) pc ls (.inl y :: .inl x :: st) σ := h _
theorem k_isub_u {x y : Int32} (h : ∀ z : Int32, cwpC ct K Z is (pc + 1) ls (.inl z :: st) σ) : cwpC ct K Z ((.isub, d, q, b, cs) :: is) pc ls (.inl y :: .inl x :: st) σ := h _
theorem k_iand_u {x y : Int32} (h : ∀ z : Int32, cwpC ct K Z is (pc + 1) ls (.inl z :: st) σ) : cwpC ct K Z ((.iand, d, q, b, cs) :: is) pc ls (.inl y :: .inl x :: st) σ := h _
theorem k_ior_u {x y : Int32} (h : ∀ z : Int32, cwpC ct K Z is (pc + 1) ls (.inl z :: st) σ) : cwpC ct K Z ((.ior, d, q, b, cs) :: is) pc ls (.inl y :: .inl x :: st) σ := h _
theorem k_imul_u {x y : Int32} (h : ∀ z : Int32, cwpC ct K Z is (pc + 1) ls (.inl z :: st) σ) : cwpC ct K Z ((.imul, d, q, b, cs) :: is) pc ls (.inl y :: .inl x :: st) σ := h _
theorem k_ishl_u {x y : Int32} (h : ∀ z : Int32, cwpC ct K Z is (pc + 1) ls (.inl z :: st) σ) : cwpC ct K Z ((.ishl, d, q, b, cs) :: is) pc ls (.inl y :: .inl x :: st) σ := h _
theorem k_ishr_u {x y : Int32} (h : ∀ z : Int32, cwpC ct K Z is (pc + 1) ls (.inl z :: st) σ) : cwpC ct K Z ((.ishr, d, q, b, cs) :: is) pc ls (.inl y :: .inl x :: st) σ := h _
theorem k_iushr_u {x y : Int32} (h : ∀ z : Int32, cwpC ct K Z is (pc + 1) ls (.inl z :: st) σ) : cwpC ct K Z ((.iushr, d, q, b, cs) :: is) pc ls (.inl y :: .inl x :: st) σ := h _
theorem k_iand_b {x y : Int32} (hx : x = 0 ∨ x = 1) (hy : y = 0 ∨ y = 1) (h : ∀ z : Int32, 0 ≤ z.toInt → z.toInt ≤ 1 → z.toInt ≤ x.toInt → z.toInt ≤ y.toInt → cwpC ct K Z is (pc + 1) ls (.inl z :: st) σ) : cwpC ct K Z ((.iand, d, q, b, cs) :: is) pc ls (.inl y :: .inl x :: st) σ := by sorry
theorem k_ior_b {x y : Int32} (hx : x = 0 ∨ x = 1) (hy : y = 0 ∨ y = 1) (h : ∀ z : Int32, 0 ≤ z.toInt → z.toInt ≤ 1 → cwpC ct K Z is (pc + 1) ls (.inl z :: st) σ) : cwpC ct K Z ((.ior, d, q, b, cs) :: is) pc ls (.inl y :: .inl x :: st) σ := by sorry
theorem k_irem_u {x y : Int32} (hy : ¬ y = 0) (h : ∀ z : Int32, cwpC ct K Z is (pc + 1) ls (.inl z :: st) σ) : cwpC ct K Z ((.irem, d, q, b, cs) :: is) pc ls (.inl y :: .inl x :: st) σ := ⟨hy, h _⟩
theorem k_ladd {x y : Int64} (h : ∀ z : Int64, cwpC ct K Z is (pc + 1) ls (.inr (.inl z) :: st) σ) : cwpC ct K Z ((.ladd, d, q, b, cs) :: is) pc ls (.inr (.inl y) :: .inr (.inl x) :: st) σ := h _
theorem k_lsub {x y : Int64} (h : ∀ z : Int64, cwpC ct K Z is (pc + 1) ls (.inr (.inl z) :: st) σ) : cwpC ct K Z ((.lsub, d, q, b, cs) :: is) pc ls (.inr (.inl y) :: .inr (.inl x) :: st) σ := h _
theorem k_lmul {x y : Int64} (h : ∀ z : Int64, cwpC ct K Z is (pc + 1) ls (.inr (.inl z) :: st) σ) : cwpC ct K Z ((.lmul, d, q, b, cs) :: is) pc ls (.inr (.inl y) :: .inr (.inl x) :: st) σ := h _
theorem k_land {x y : Int64} (h : ∀ z : Int64, cwpC ct K Z is (pc + 1) ls (.inr (.inl z) :: st) σ) : cwpC ct K Z ((.land, d, q, b, cs) :: is) pc ls (.inr (.inl y) :: .inr (.inl x) :: st) σ := h _
theorem k_lor {x y : Int64} (h : ∀ z : Int64, cwpC ct K Z is (pc + 1) ls (.inr (.inl z) :: st) σ) : cwpC ct K Z ((.lor, d, q, b, cs) :: is) pc ls (.inr (.inl y) :: .inr (.inl x) :: st) σ := h _
theorem k_lxor {x y : Int64} (h : ∀ z : Int64, cwpC ct K Z is (pc + 1) ls (.inr (.inl z) :: st) σ) : cwpC ct K Z ((.lxor, d, q, b, cs) :: is) pc ls (.inr (.inl y) :: .inr (.inl x) :: st) σ := h _
theorem k_ldiv {x y : Int64} (hy : ¬ y = 0) (h : ∀ z : Int64, cwpC ct K Z is (pc + 1) ls (.inr (.inl z) :: st) σ) : cwpC ct K Z ((.ldiv, d, q, b, cs) :: is) pc ls (.inr (.inl y) :: .inr (.inl x) :: st) σ := ⟨hy, h _⟩
theorem k_lrem {x y : Int64} (hy : ¬ y = 0) (h : ∀ z : Int64, cwpC ct K Z is (pc + 1) ls (.inr (.inl z) :: st) σ) : cwpC ct K Z ((.lrem, d, q, b, cs) :: is) pc ls (.inr (.inl y) :: .inr (.inl x) :: st) σ := ⟨hy, h _⟩
theorem k_lshl {x : Int64} {y : Int32} (h : ∀ z : Int64, cwpC ct K Z is (pc + 1) ls (.inr (.inl z) :: st) σ) : cwpC ct K Z ((.lshl, d, q, b, cs) :: is) pc ls (.inl y :: .inr (.inl x) :: st) σ := h _
theorem k_lshr {x : Int64} {y : Int32} (h : ∀ z : Int64, cwpC ct K Z is (pc + 1) ls (.inr (.inl z) :: st) σ) : cwpC ct K Z ((.lshr, d, q, b, cs) :: is) pc ls (.inl y :: .inr (.inl x) :: st) σ := h _
theorem k_lushr {x : Int64} {y : Int32} (h : ∀ z : Int64, cwpC ct K Z is (pc + 1) ls (.inr (.inl z) :: st) σ) : cwpC ct K Z ((.lushr, d, q, b, cs) :: is) pc ls (.inl y :: .inr (.inl x) :: st) σ := h _
theorem k_lneg {x : Int64} (h : ∀ z : Int64, cwpC ct K Z is (pc + 1) ls (.inr (.inl z) :: st) σ) : cwpC ct K Z ((.lneg, d, q, b, cs) :: is) pc ls (.inr (.inl x) :: st) σ := h _
theorem k_i2l {x : Int32} (h : ∀ z : Int64, cwpC ct K Z is (pc + 1) ls (.inr (.inl z) :: st) σ) : cwpC ct K Z ((.i2l, d, q, b, cs) :: is) pc ls (.inl x :: st) σ := h _
theorem k_l2i {x : Int64} (h : ∀ z : Int32, cwpC ct K Z is (pc + 1) ls (.inl z :: st) σ) : cwpC ct K Z ((.l2i, d, q, b, cs) :: is) pc ls (.inr (.inl x) :: st) σ := h _
theorem k_i2b {x : Int32} (h : ∀ z : Int32, cwpC ct K Z is (pc + 1) ls (.inl z :: st) σ) : cwpC ct K Z ((.i2b, d, q, b, cs) :: is) pc ls (.inl x :: st) σ := h _
theorem k_i2c {x : Int32} (h : ∀ z : Int32, cwpC ct K Z is (pc + 1) ls (.inl z :: st) σ) : cwpC ct K Z ((.i2c, d, q, b, cs) :: is) pc ls (.inl x :: st) σ := h _
theorem lcmpC {x y : Int64} : (lg_cmp x y).toInt = 0 → x = y := by sorry
theorem k_lcmp {x y : Int64} (h : ∀ z : Int32, (z.toInt = 0 → x = y) → (x = y → z.toInt = 0) → cwpC ct K Z is (pc + 1) ls (.inl z :: st) σ) : cwpC ct K Z ((.lcmp, d, q, b, cs) :: is) pc ls (.inr (.inl y) :: .inr (.inl x) :: st) σ := by sorry
theorem k_dupI {v : Int32} (h : cwpC ct K Z is (pc + 1) ls (.inl v :: .inl v :: st) σ) : cwpC ct K Z ((.dup, d, q, b, cs) :: is) pc ls (.inl v :: st) σ := h
theorem k_dupR {v : Option Nat} (h : cwpC ct K Z is (pc + 1) ls (.inr (.inr v) :: .inr (.inr v) :: st) σ) : cwpC ct K Z ((.dup, d, q, b, cs) :: is) pc ls (.inr (.inr v) :: st) σ := h
theorem k_dup_x1I {v : Int32} {y : Option Nat} (h : cwpC ct K Z is (pc + 1) ls (.inl v :: .inr (.inr y) :: .inl v :: st) σ) : cwpC ct K Z ((.dup_x1, d, q, b, cs) :: is) pc ls (.inl v :: .inr (.inr y) :: st) σ := h
theorem k_dup_x1R {v y : Option Nat} (h : cwpC ct K Z is (pc + 1) ls (.inr (.inr v) :: .inr (.inr y) :: .inr (.inr v) :: st) σ) : cwpC ct K Z ((.dup_x1, d, q, b, cs) :: is) pc ls (.inr (.inr v) :: .inr (.inr y) :: st) σ := h
theorem k_popI {v : Int32} (h : cwpC ct K Z is (pc + 1) ls st σ) : cwpC ct K Z ((.pop, d, q, b, cs) :: is) pc ls (.inl v :: st) σ := h
theorem k_popR {v : Option Nat} (h : cwpC ct K Z is (pc + 1) ls st σ) : cwpC ct K Z ((.pop, d, q, b, cs) :: is) pc ls (.inr (.inr v) :: st) σ := h
theorem k_pop2 {v : Int64} (h : cwpC ct K Z is (pc + 1) ls st σ) : cwpC ct K Z ((.pop2, d, q, b, cs) :: is) pc ls (.inr (.inl v) :: st) σ := h
theorem k_goto {o : Int} (h : K b ls st σ) : cwpC ct K Z ((.goto o, d, q, b, cs) :: is) pc ls st σ := h
theorem k_if_eq {o : Int} {x : Int32} (h1 : x.toInt = 0 → K b ls st σ) (h2 : ¬ x.toInt = 0 → cwpC ct K Z is (pc + 3) ls st σ) : cwpC ct K Z ((.ifCond .eq o, d, q, b, cs) :: is) pc ls (.inl x :: st) σ := by sorry
theorem k_ic_eq {o : Int} {x y : Int32} (h1 : x.toInt = y.toInt → K b ls st σ) (h2 : ¬ x.toInt = y.toInt → cwpC ct K Z is (pc + 3) ls st σ) : cwpC ct K Z ((.if_icmp .eq o, d, q, b, cs) :: is) pc ls (.inl y :: .inl x :: st) σ := by sorry
theorem k_if_ne {o : Int} {x : Int32} (h1 : ¬ x.toInt = 0 → K b ls st σ) (h2 : x.toInt = 0 → cwpC ct K Z is (pc + 3) ls st σ) : cwpC ct K Z ((.ifCond .ne o, d, q, b, cs) :: is) pc ls (.inl x :: st) σ := by sorry
theorem k_ic_ne {o : Int} {x y : Int32} (h1 : ¬ x.toInt = y.toInt → K b ls st σ) (h2 : x.toInt = y.toInt → cwpC ct K Z is (pc + 3) ls st σ) : cwpC ct K Z ((.if_icmp .ne o, d, q, b, cs) :: is) pc ls (.inl y :: .inl x :: st) σ := by sorry
theorem k_if_lt {o : Int} {x : Int32} (h1 : x.toInt < 0 → K b ls st σ) (h2 : 0 ≤ x.toInt → cwpC ct K Z is (pc + 3) ls st σ) : cwpC ct K Z ((.ifCond .lt o, d, q, b, cs) :: is) pc ls (.inl x :: st) σ := by sorry
theorem k_ic_lt {o : Int} {x y : Int32} (h1 : x.toInt < y.toInt → K b ls st σ) (h2 : y.toInt ≤ x.toInt → cwpC ct K Z is (pc + 3) ls st σ) : cwpC ct K Z ((.if_icmp .lt o, d, q, b, cs) :: is) pc ls (.inl y :: .inl x :: st) σ := by sorry
theorem k_if_ge {o : Int} {x : Int32} (h1 : 0 ≤ x.toInt → K b ls st σ) (h2 : x.toInt < 0 → cwpC ct K Z is (pc + 3) ls st σ) : cwpC ct K Z ((.ifCond .ge o, d, q, b, cs) :: is) pc ls (.inl x :: st) σ := by sorry
theorem k_ic_ge {o : Int} {x y : Int32} (h1 : y.toInt ≤ x.toInt → K b ls st σ) (h2 : x.toInt < y.toInt → cwpC ct K Z is (pc + 3) ls st σ) : cwpC ct K Z ((.if_icmp .ge o, d, q, b, cs) :: is) pc ls (.inl y :: .inl x :: st) σ := by sorry
theorem k_if_gt {o : Int} {x : Int32} (h1 : 0 < x.toInt → K b ls st σ) (h2 : x.toInt ≤ 0 → cwpC ct K Z is (pc + 3) ls st σ) : cwpC ct K Z ((.ifCond .gt o, d, q, b, cs) :: is) pc ls (.inl x :: st) σ := by sorry
theorem k_ic_gt {o : Int} {x y : Int32} (h1 : y.toInt < x.toInt → K b ls st σ) (h2 : x.toInt ≤ y.toInt → cwpC ct K Z is (pc + 3) ls st σ) : cwpC ct K Z ((.if_icmp .gt o, d, q, b, cs) :: is) pc ls (.inl y :: .inl x :: st) σ := by sorry
theorem k_if_le {o : Int} {x : Int32} (h1 : x.toInt ≤ 0 → K b ls st σ) (h2 : 0 < x.toInt → cwpC ct K Z is (pc + 3) ls st σ) : cwpC ct K Z ((.ifCond .le o, d, q, b, cs) :: is) pc ls (.inl x :: st) σ := by sorry
theorem k_ic_le {o : Int} {x y : Int32} (h1 : x.toInt ≤ y.toInt → K b ls st σ) (h2 : y.toInt < x.toInt → cwpC ct K Z is (pc + 3) ls st σ) : cwpC ct K Z ((.if_icmp .le o, d, q, b, cs) :: is) pc ls (.inl y :: .inl x :: st) σ := by sorry
theorem k_ifnull {o : Int} {v : Option Nat} (h1 : v = none → K b ls st σ) (h2 : ∀ a, v = some a → cwpC ct K Z is (pc + 3) ls st σ) : cwpC ct K Z ((.ifnull o, d, q, b, cs) :: is) pc ls (.inr (.inr v) :: st) σ := ⟨h1, h2⟩
theorem k_ifnonnull {o : Int} {v : Option Nat} (h1 : ∀ a, v = some a → K b ls st σ) (h2 : v = none → cwpC ct K Z is (pc + 3) ls st σ) : cwpC ct K Z ((.ifnonnull o, d, q, b, cs) :: is) pc ls (.inr (.inr v) :: st) σ := ⟨h1, h2⟩
theorem k_acmp_eq {o : Int} {v y : Option Nat} {c c' : Nat} (t : OtC σ v c) (t' : OtC σ y c') (h1 : v = y → K b ls st σ) (h2 : ¬ v = y → cwpC ct K Z is (pc + 3) ls st σ) : cwpC ct K Z ((.if_acmp .eq o, d, q, b, cs) :: is) pc ls (.inr (.inr y) :: .inr (.inr v) :: st) σ := by sorry
theorem k_acmp_ne {o : Int} {v y : Option Nat} {c c' : Nat} (t : OtC σ v c) (t' : OtC σ y c') (h1 : ¬ v = y → K b ls st σ) (h2 : v = y → cwpC ct K Z is (pc + 3) ls st σ) : cwpC ct K Z ((.if_acmp .ne o, d, q, b, cs) :: is) pc ls (.inr (.inr y) :: .inr (.inr v) :: st) σ := by sorry
theorem k_tsw {o l h : Int} {os : Array Int} {x : Int32} (w : rsw x.toInt cs b (fun t => K t ls st σ)) : cwpC ct K Z ((.tableswitch o l h os, d, q, b, cs) :: is) pc ls (.inl x :: st) σ := w
theorem k_lsw {o : Int} {os : Array (Int × Int)} {x : Int32} (w : rsw x.toInt cs b (fun t => K t ls st σ)) : cwpC ct K Z ((.lookupswitch o os, d, q, b, cs) :: is) pc ls (.inl x :: st) σ := w
theorem k_swc {x i : Int} {t e : Nat} {r : List (Int × Nat)} {k : Nat → Prop} (h1 : x = i → k t) (h2 : ¬ x = i → rsw x r e k) : rsw x ((i, t) :: r) e k := ⟨h1, h2⟩
theorem k_swn {x : Int} {e : Nat} {k : Nat → Prop} (h : k e) : rsw x [] e k := h
theorem k_ireturn {x : Int32} (hb : q = 2 → x = 0 ∨ x = 1) (h : Z (some (.inl x)) σ) : cwpC ct K Z ((.ireturn, d, q, b, cs) :: is) pc ls [.inl x] σ := ⟨hb, h⟩
theorem k_lreturn {x : Int64} (h : Z (some (.inr (.inl x))) σ) : cwpC ct K Z ((.lreturn, d, q, b, cs) :: is) pc ls [.inr (.inl x)] σ := h
theorem k_areturn {x : Option Nat} (h : Z (some (.inr (.inr x))) σ) : cwpC ct K Z ((.areturn, d, q, b, cs) :: is) pc ls [.inr (.inr x)] σ := h
theorem k_return (h : Z none σ) : cwpC ct K Z ((.return_, d, q, b, cs) :: is) pc ls [] σ := ⟨σ, WeC.rf, h⟩
theorem k_returnW {τ : CsC} (e : WeC σ τ) (h : Z none τ) : cwpC ct K Z ((.return_, d, q, b, cs) :: is) pc ls [] σ := ⟨τ, e, h⟩
theorem k_get {j k c a : Nat} {v : AvC} (hk : kgC k c = true) (t : TyC σ a c) (e : gtC σ a k = v) (h : cwpC ct K Z is (pc + 3) ls (v :: st) σ) : cwpC ct K Z ((.getfield j, d, q, k, cs) :: is) pc ls (.inr (.inr (some a)) :: st) σ := by sorry
theorem k_getO {j k a : Nat} {v : AvC} (o : ObC σ a (k / 30)) (e : gtC σ a k = v) (h : cwpC ct K Z is (pc + 3) ls (v :: st) σ) : cwpC ct K Z ((.getfield j, d, q, k, cs) :: is) pc ls (.inr (.inr (some a)) :: st) σ := by sorry
theorem k_putI {j k c a : Nat} {w : Int32} (hp : kpC k c = true) (hI : HIC σ) (t : TyC σ a c) (hk : fkC k = 0 ∨ (fkC k = 1 ∧ (w = 0 ∨ w = 1))) (h1 : (inC k).1 ≤ w.toInt) (h2 : w.toInt ≤ (inC k).2) (h : ∀ τ, HIC τ → ExC [k] σ τ → fIC τ a k = w → cwpC ct K Z is (pc + 3) ls st τ) : cwpC ct K Z ((.putfield j, d, q, k, cs) :: is) pc ls (.inl w :: .inr (.inr (some a)) :: st) σ := by sorry
theorem k_p280 {j a : Nat} {w : Int32} (hI : HIC σ) (t : TyC σ a 9) (h1 : -1 ≤ w.toInt) (h2 : w.toInt ≤ 502) (hl : (fIC σ a 270).toInt = 6 → 0 ≤ w.toInt) (h : ∀ τ, HIC τ → ExC [280] σ τ → fIC τ a 280 = w → cwpC ct K Z is (pc + 3) ls st τ) : cwpC ct K Z ((.putfield j, d, q, 280, cs) :: is) pc ls (.inl w :: .inr (.inr (some a)) :: st) σ := by sorry
theorem k_putL {j k c a : Nat} {w : Int64} (hp : kgC k c = true) (hI : HIC σ) (t : TyC σ a c) (hk : fkC k = 2) (h : ∀ τ, HIC τ → ExC [] σ τ → fLC τ a k = w → cwpC ct K Z is (pc + 3) ls st τ) : cwpC ct K Z ((.putfield j, d, q, k, cs) :: is) pc ls (.inr (.inl w) :: .inr (.inr (some a)) :: st) σ :=
  ⟨a, rfl, kgCob hp t, hk, h _ hI.pL ExC.pL u2C_eq⟩
theorem k_putR {j k c a : Nat} {w : Option Nat} (hp : kpC k c = true) (hI : HIC σ) (t : TyC σ a c) (hk : fkC k = 3) (hv : RfC σ a k w) (h : ∀ τ, HIC τ → ExC [k] σ τ → fRC τ a k = w → cwpC ct K Z is (pc + 3) ls st τ) : cwpC ct K Z ((.putfield j, d, q, k, cs) :: is) pc ls (.inr (.inr w) :: .inr (.inr (some a)) :: st) σ := by sorry
theorem TyC.rw {a t : Nat} (h : TyC σ a t) : RwC σ a t := ⟨h.1, h.2.1⟩
theorem k_iaload {x : Int32} {a : Nat} (t : TyC σ a 100) (h0 : 0 ≤ x.toInt) (h1 : x.toInt < alC σ a) (h : ∀ v : Int32, cwpC ct K Z is (pc + 1) ls (.inl v :: st) σ) : cwpC ct K Z ((.iaload, d, q, b, cs) :: is) pc ls (.inl x :: .inr (.inr (some a)) :: st) σ := ⟨a, rfl, Or.inl ⟨t.rw, inC_of h0 h1, h _⟩⟩
theorem k_iaload1 {x : Int32} {a : Nat} (hI : HIC σ) (t : TyC σ a 100) (hg : ghC σ a = 1) (h0 : 0 ≤ x.toInt) (h1 : x.toInt < alC σ a) (h : ∀ v : Int32, 0 ≤ v.toInt → v.toInt ≤ 7500 → cwpC ct K Z is (pc + 1) ls (.inl v :: st) σ) : cwpC ct K Z ((.iaload, d, q, b, cs) :: is) pc ls (.inl x :: .inr (.inr (some a)) :: st) σ := by sorry
theorem k_baload {x : Int32} {a : Nat} (t : TyC σ a 101) (h0 : 0 ≤ x.toInt) (h1 : x.toInt < alC σ a) (h : ∀ v : Int32, cwpC ct K Z is (pc + 1) ls (.inl v :: st) σ) : cwpC ct K Z ((.baload, d, q, b, cs) :: is) pc ls (.inl x :: .inr (.inr (some a)) :: st) σ := ⟨a, rfl, t.rw, inC_of h0 h1, h _⟩
theorem k_laload {x : Int32} {a : Nat} (t : TyC σ a 102) (h0 : 0 ≤ x.toInt) (h1 : x.toInt < alC σ a) (h : ∀ v : Int64, cwpC ct K Z is (pc + 1) ls (.inr (.inl v) :: st) σ) : cwpC ct K Z ((.laload, d, q, b, cs) :: is) pc ls (.inl x :: .inr (.inr (some a)) :: st) σ := ⟨a, rfl, t.rw, inC_of h0 h1, h _⟩
theorem k_aaload {x : Int32} {a t c : Nat} (hI : HIC σ) (ht : TyC σ a t) (hc : (t = 104 ∧ c = 2) ∨ (t = 105 ∧ c = 9)) (h0 : 0 ≤ x.toInt) (h1 : x.toInt < alC σ a) (h : ∀ v : Option Nat, eRC σ a x.toNatClampNeg = v → OtC σ v c → cwpC ct K Z is (pc + 1) ls (.inr (.inr v) :: st) σ) : cwpC ct K Z ((.aaload, d, q, b, cs) :: is) pc ls (.inl x :: .inr (.inr (some a)) :: st) σ := by sorry
theorem k_aaloadE {x : Int32} {a t : Nat} {v : Option Nat} (ht : TyC σ a t) (hc : t = 104 ∨ t = 105) (h0 : 0 ≤ x.toInt) (h1 : x.toInt < alC σ a) (e : eRC σ a x.toNatClampNeg = v) (h : cwpC ct K Z is (pc + 1) ls (.inr (.inr v) :: st) σ) : cwpC ct K Z ((.aaload, d, q, b, cs) :: is) pc ls (.inl x :: .inr (.inr (some a)) :: st) σ := by sorry
theorem k_iastore {w x : Int32} {a : Nat} (hI : HIC σ) (t : TyC σ a 100) (hg : ghC σ a = 0) (h0 : 0 ≤ x.toInt) (h1 : x.toInt < alC σ a) (h : ∀ τ, HIC τ → ExC [] σ τ → cwpC ct K Z is (pc + 1) ls st τ) : cwpC ct K Z ((.iastore, d, q, b, cs) :: is) pc ls (.inl w :: .inl x :: .inr (.inr (some a)) :: st) σ := by sorry
theorem k_iastore2 {w x : Int32} {a : Nat} (hI : HIC σ) (t : TyC σ a 100) (hg : 2 ≤ ghC σ a ∧ ghC σ a ≤ 4) (h0 : 0 ≤ x.toInt) (h1 : x.toInt < alC σ a) (h : ∀ τ, HIC τ → ExC [998] σ τ → eIC τ a x.toNatClampNeg = w → eIC τ = u1C (eIC σ) a (upd (eIC σ a) x.toNatClampNeg w) → cwpC ct K Z is (pc + 1) ls st τ) : cwpC ct K Z ((.iastore, d, q, b, cs) :: is) pc ls (.inl w :: .inl x :: .inr (.inr (some a)) :: st) σ := by sorry
theorem k_iastore7 {w x : Int32} {a : Nat} (hI : HIC σ) (t : TyC σ a 100) (hg : ghC σ a = 7) (h0 : 0 ≤ x.toInt) (h1 : x.toInt < alC σ a) (h : ∀ τ, HIC τ → ExC [995] σ τ → τ = qIC σ a (upd (eIC σ a) x.toNatClampNeg w) → cwpC ct K Z is (pc + 1) ls st τ) : cwpC ct K Z ((.iastore, d, q, b, cs) :: is) pc ls (.inl w :: .inl x :: .inr (.inr (some a)) :: st) σ := by sorry
theorem k_putIe {j k c a : Nat} {w : Int32} (hp : kpC k c = true) (hI : HIC σ) (t : TyC σ a c) (hk : fkC k = 0 ∨ (fkC k = 1 ∧ (w = 0 ∨ w = 1))) (h1 : (inC k).1 ≤ w.toInt) (h2 : w.toInt ≤ (inC k).2) (h : ∀ τ, HIC τ → ExC [k] σ τ → fIC τ a k = w → τ = pIC σ a k w → cwpC ct K Z is (pc + 3) ls st τ) : cwpC ct K Z ((.putfield j, d, q, k, cs) :: is) pc ls (.inl w :: .inr (.inr (some a)) :: st) σ := by sorry
theorem qI_s {a : Nat} {f : Nat → Int32} : eIC (qIC σ a f) a = f := u1C_eq
theorem qI_n {a b : Nat} {f : Nat → Int32} (h : b ≠ a) : eIC (qIC σ a f) b = eIC σ b := u1C_ne h
theorem k_ialoadE {x : Int32} {a : Nat} (t : TyC σ a 100) (h0 : 0 ≤ x.toInt) (h1 : x.toInt < alC σ a) (h : ∀ v : Int32, eIC σ a x.toNatClampNeg = v → cwpC ct K Z is (pc + 1) ls (.inl v :: st) σ) : cwpC ct K Z ((.iaload, d, q, b, cs) :: is) pc ls (.inl x :: .inr (.inr (some a)) :: st) σ := ⟨a, rfl, Or.inl ⟨t.rw, inC_of h0 h1, h _ rfl⟩⟩
theorem k_iastore1 {w x : Int32} {a : Nat} (hI : HIC σ) (t : TyC σ a 100) (hg : ghC σ a = 1) (h0 : 0 ≤ x.toInt) (h1 : x.toInt < alC σ a) (h2 : 0 ≤ w.toInt) (h3 : w.toInt ≤ 7500) (h : ∀ τ, HIC τ → ExC [] σ τ → cwpC ct K Z is (pc + 1) ls st τ) : cwpC ct K Z ((.iastore, d, q, b, cs) :: is) pc ls (.inl w :: .inl x :: .inr (.inr (some a)) :: st) σ := by sorry
theorem k_bastore {w x : Int32} {a : Nat} (hI : HIC σ) (t : TyC σ a 101) (h0 : 0 ≤ x.toInt) (h1 : x.toInt < alC σ a) (h : ∀ τ, HIC τ → ExC [997] σ τ → eIC τ = u1C (eIC σ) a (upd (eIC σ a) x.toNatClampNeg (vp_nar .byte w)) → cwpC ct K Z is (pc + 1) ls st τ) : cwpC ct K Z ((.bastore, d, q, b, cs) :: is) pc ls (.inl w :: .inl x :: .inr (.inr (some a)) :: st) σ := by sorry
theorem k_lastore {w : Int64} {x : Int32} {a : Nat} (hI : HIC σ) (t : TyC σ a 102) (hg : ghC σ a = 0) (h0 : 0 ≤ x.toInt) (h1 : x.toInt < alC σ a) (h : ∀ τ, HIC τ → ExC [] σ τ → cwpC ct K Z is (pc + 1) ls st τ) : cwpC ct K Z ((.lastore, d, q, b, cs) :: is) pc ls (.inr (.inl w) :: .inl x :: .inr (.inr (some a)) :: st) σ := by sorry
theorem k_lastore5 {w : Int64} {x : Int32} {a : Nat} (hI : HIC σ) (t : TyC σ a 102) (hg : ghC σ a = 5) (h0 : 0 ≤ x.toInt) (h1 : x.toInt < alC σ a) (h : ∀ τ, HIC τ → ExC [996] σ τ → eLC τ = u1C (eLC σ) a (vp_updL (eLC σ a) x.toNatClampNeg w) → cwpC ct K Z is (pc + 1) ls st τ) : cwpC ct K Z ((.lastore, d, q, b, cs) :: is) pc ls (.inr (.inl w) :: .inl x :: .inr (.inr (some a)) :: st) σ := by sorry
theorem k_aastore {w : Option Nat} {x : Int32} {a t c : Nat} (hI : HIC σ) (ht : TyC σ a t) (hc : (t = 104 ∧ c = 2) ∨ (t = 105 ∧ c = 9)) (h0 : 0 ≤ x.toInt) (h1 : x.toInt < alC σ a) (ho : OtC σ w c) (h : ∀ τ, HIC τ → ExC [] σ τ → cwpC ct K Z is (pc + 1) ls st τ) : cwpC ct K Z ((.aastore, d, q, b, cs) :: is) pc ls (.inr (.inr w) :: .inl x :: .inr (.inr (some a)) :: st) σ := by sorry
theorem k_alen {a c n : Nat} (t : TyC σ a c) (h0 : 100 ≤ c) (h1 : c ≤ 105) (e : alC σ a = n) (hn : n < 2147483648) (h : ∀ x : Int32, x.toInt = (n : Int) → cwpC ct K Z is (pc + 1) ls (.inl x :: st) σ) : cwpC ct K Z ((.arraylength, d, q, b, cs) :: is) pc ls (.inr (.inr (some a)) :: st) σ := by sorry
theorem k_castS {j c a : Nat} (o : ObC σ a c) (h : cwpC ct K Z is (pc + 3) ls (.inr (.inr (some a)) :: st) σ) : cwpC ct K Z ((.checkcast j, d, q, c, cs) :: is) pc ls (.inr (.inr (some a)) :: st) σ := ⟨o, h⟩
theorem k_inv {j : Nat} {μ : Nat} {P : CpC} {Q : CqC} {As r : List AvC} {a : Nat} (h9 : Nat.beq μ 9998 = false) (hc : ctC ct μ = some (P, Q)) (hd : st.drop q.toNat = .inr (.inr (some a)) :: r) (ht : (st.take q.toNat).reverse = As) (h8 : csC r ≤ 8) (hr : RcC σ a cs.length) (hp : P (.inr (.inr (some a)) :: As) σ) (h : ∀ w τ, Q (.inr (.inr (some a)) :: As) σ w τ → cwpC ct K Z is (pc + 3) ls (w.toList ++ r) τ) : cwpC ct K Z ((.invokevirtual j, d, q, μ, cs) :: is) pc ls st σ := by sorry
theorem k_spec {j : Nat} {μ : Nat} {P : CpC} {Q : CqC} {As r : List AvC} {a : Nat} (h9 : Nat.beq μ 9999 = false) (hc : ctC ct μ = some (P, Q)) (hd : st.drop q.toNat = .inr (.inr (some a)) :: r) (ht : (st.take q.toNat).reverse = As) (h8 : csC r ≤ 8) (hp : P (.inr (.inr (some a)) :: As) σ) (h : ∀ w τ, Q (.inr (.inr (some a)) :: As) σ w τ → cwpC ct K Z is (pc + 3) ls (w.toList ++ r) τ) : cwpC ct K Z ((.invokespecial j, d, q, μ, cs) :: is) pc ls st σ := by sorry
theorem k_obj {j : Nat} {a : Nat} {r : List AvC} (h8 : csC r ≤ 8) (h : cwpC ct K Z is (pc + 3) ls r σ) : cwpC ct K Z ((.invokespecial j, d, q, 9999, cs) :: is) pc ls (.inr (.inr (some a)) :: r) σ := ⟨h8, h⟩
theorem k_stat {j : Nat} {μ : Nat} {P : CpC} {Q : CqC} {As r : List AvC} (h9 : Nat.ble 9990 μ = false) (hc : ctC ct μ = some (P, Q)) (hl : q.toNat ≤ st.length) (hd : st.drop q.toNat = r) (ht : (st.take q.toNat).reverse = As) (h8 : csC r ≤ 8) (hp : P As σ) (h : ∀ w τ, Q As σ w τ → cwpC ct K Z is (pc + 3) ls (w.toList ++ r) τ) : cwpC ct K Z ((.invokestatic j, d, q, μ, cs) :: is) pc ls st σ := by sorry
theorem k_mmin {j : Nat} {x y : Int32} (h8 : csC st ≤ 8) (h : ∀ z : Int32, z.toInt ≤ x.toInt → z.toInt ≤ y.toInt → (z.toInt = x.toInt ∨ z.toInt = y.toInt) → cwpC ct K Z is (pc + 3) ls (.inl z :: st) σ) : cwpC ct K Z ((.invokestatic j, d, q, 9996, cs) :: is) pc ls (.inl y :: .inl x :: st) σ := by sorry
theorem k_mmax {j : Nat} {x y : Int32} (h8 : csC st ≤ 8) (h : ∀ z : Int32, z.toInt = max x.toInt y.toInt → cwpC ct K Z is (pc + 3) ls (.inl z :: st) σ) : cwpC ct K Z ((.invokestatic j, d, q, 9995, cs) :: is) pc ls (.inl y :: .inl x :: st) σ := by sorry
theorem TyC.rc {a c : Nat} (t : TyC σ a c) (h : c < 13) : RcC σ a c := Or.inl ⟨t.ob h, h⟩
theorem TyC.ot {a c : Nat} (t : TyC σ a c) : OtC σ (some a) c := fun b e => by cases e; exact t
theorem OtC.n {c : Nat} : OtC σ none c := fun b e => by cases e
end KR
theorem kg0 : kgC 0 0 = true := by sorry
theorem fk0 : fkC 0 = 0 := by sorry
theorem kp0 : kpC 0 0 = true := by sorry
theorem kg1 : kgC 1 0 = true := by sorry
theorem fk1 : fkC 1 = 3 := by sorry
theorem kg2 : kgC 2 0 = true := by sorry
theorem fk2 : fkC 2 = 0 := by sorry
theorem kg30 : kgC 30 1 = true := by sorry
theorem fk30 : fkC 30 = 3 := by sorry
theorem kg31 : kgC 31 1 = true := by sorry
theorem fk31 : fkC 31 = 3 := by sorry
theorem kg32 : kgC 32 1 = true := by sorry
theorem fk32 : fkC 32 = 3 := by sorry
theorem kg33 : kgC 33 1 = true := by sorry
theorem fk33 : fkC 33 = 3 := by sorry
theorem kg34 : kgC 34 1 = true := by sorry
theorem fk34 : fkC 34 = 0 := by sorry
theorem kp34 : kpC 34 1 = true := by sorry
theorem kg35 : kgC 35 1 = true := by sorry
theorem fk35 : fkC 35 = 3 := by sorry
theorem kp35 : kpC 35 1 = true := by sorry
theorem rf35 {σ : CsC} {a b : Nat} (t : TyC σ b 7) : RfC σ a 35 (some b) := by sorry
theorem kg36 : kgC 36 1 = true := by sorry
theorem fk36 : fkC 36 = 3 := by sorry
theorem kp36 : kpC 36 1 = true := by sorry
theorem rf36 {σ : CsC} {a b : Nat} (t : TyC σ b 9) : RfC σ a 36 (some b) := by sorry
theorem kg60 : kgC 60 2 = true := by sorry
theorem fk60 : fkC 60 = 0 := by sorry
theorem kg61 : kgC 61 2 = true := by sorry
theorem fk61 : fkC 61 = 0 := by sorry
theorem kg62 : kgC 62 2 = true := by sorry
theorem fk62 : fkC 62 = 0 := by sorry
theorem kg63 : kgC 63 2 = true := by sorry
theorem fk63 : fkC 63 = 0 := by sorry
theorem kg64 : kgC 64 2 = true := by sorry
theorem fk64 : fkC 64 = 0 := by sorry
theorem kp64 : kpC 64 2 = true := by sorry
theorem kg65 : kgC 65 2 = true := by sorry
theorem fk65 : fkC 65 = 0 := by sorry
theorem kp65 : kpC 65 2 = true := by sorry
theorem kg66 : kgC 66 2 = true := by sorry
theorem fk66 : fkC 66 = 0 := by sorry
theorem kp66 : kpC 66 2 = true := by sorry
theorem kg67 : kgC 67 2 = true := by sorry
theorem fk67 : fkC 67 = 0 := by sorry
theorem kp67 : kpC 67 2 = true := by sorry
theorem kg68 : kgC 68 2 = true := by sorry
theorem fk68 : fkC 68 = 0 := by sorry
theorem kp68 : kpC 68 2 = true := by sorry
theorem kg69 : kgC 69 2 = true := by sorry
theorem fk69 : fkC 69 = 0 := by sorry
theorem kp69 : kpC 69 2 = true := by sorry
theorem kg70 : kgC 70 2 = true := by sorry
theorem fk70 : fkC 70 = 1 := by sorry
theorem kp70 : kpC 70 2 = true := by sorry
theorem kg71 : kgC 71 2 = true := by sorry
theorem fk71 : fkC 71 = 2 := by sorry
theorem kp71 : kpC 71 2 = true := by sorry
theorem kg72 : kgC 72 2 = true := by sorry
theorem fk72 : fkC 72 = 3 := by sorry
theorem kp72 : kpC 72 2 = true := by sorry
theorem rf72 {σ : CsC} {a b : Nat} (t : TyC σ b 2) : RfC σ a 72 (some b) := by sorry
theorem rfo72 {σ : CsC} {a : Nat} {o : Option Nat} (t : OtC σ o 2) : RfC σ a 72 o := by sorry
theorem kg73 : kgC 73 2 = true := by sorry
theorem fk73 : fkC 73 = 3 := by sorry
theorem kg74 : kgC 74 2 = true := by sorry
theorem fk74 : fkC 74 = 3 := by sorry
theorem kp74 : kpC 74 2 = true := by sorry
theorem rf74 {σ : CsC} {a b : Nat} (t : TyC σ b 2) : RfC σ a 74 (some b) := by sorry
theorem rfo74 {σ : CsC} {a : Nat} {o : Option Nat} (t : OtC σ o 2) : RfC σ a 74 o := by sorry
theorem kg75 : kgC 75 2 = true := by sorry
theorem fk75 : fkC 75 = 3 := by sorry
theorem kg76 : kgC 76 2 = true := by sorry
theorem fk76 : fkC 76 = 3 := by sorry
theorem kp76 : kpC 76 2 = true := by sorry
theorem rf76 {σ : CsC} {a b : Nat} (t : TyC σ b 2) : RfC σ a 76 (some b) := by sorry
theorem rfo76 {σ : CsC} {a : Nat} {o : Option Nat} (t : OtC σ o 2) : RfC σ a 76 o := by sorry
theorem kg77 : kgC 77 2 = true := by sorry
theorem fk77 : fkC 77 = 0 := by sorry
theorem kp77 : kpC 77 2 = true := by sorry
theorem kg90 : kgC 90 3 = true := by sorry
theorem fk90 : fkC 90 = 3 := by sorry
theorem kp90 : kpC 90 3 = true := by sorry
theorem rf90 {σ : CsC} {a b : Nat} (t : TyC σ b 7) : RfC σ a 90 (some b) := by sorry
theorem kg91 : kgC 91 3 = true := by sorry
theorem fk91 : fkC 91 = 2 := by sorry
theorem kp91 : kpC 91 3 = true := by sorry
theorem kg92 : kgC 92 3 = true := by sorry
theorem fk92 : fkC 92 = 2 := by sorry
theorem kp92 : kpC 92 3 = true := by sorry
theorem kg93 : kgC 93 3 = true := by sorry
theorem fk93 : fkC 93 = 3 := by sorry
theorem kg94 : kgC 94 3 = true := by sorry
theorem fk94 : fkC 94 = 0 := by sorry
theorem kp94 : kpC 94 3 = true := by sorry
theorem kg120 : kgC 120 4 = true := by sorry
theorem fk120 : fkC 120 = 3 := by sorry
theorem kg121 : kgC 121 4 = true := by sorry
theorem fk121 : fkC 121 = 3 := by sorry
theorem kp121 : kpC 121 4 = true := by sorry
theorem rf121 {σ : CsC} {a b : Nat} (t : TyC σ b 7) : RfC σ a 121 (some b) := by sorry
theorem kg150 : kgC 150 5 = true := by sorry
theorem fk150 : fkC 150 = 3 := by sorry
theorem kg151 : kgC 151 5 = true := by sorry
theorem fk151 : fkC 151 = 3 := by sorry
theorem kg152 : kgC 152 5 = true := by sorry
theorem fk152 : fkC 152 = 3 := by sorry
theorem kg153 : kgC 153 5 = true := by sorry
theorem fk153 : fkC 153 = 3 := by sorry
theorem kg154 : kgC 154 5 = true := by sorry
theorem fk154 : fkC 154 = 3 := by sorry
theorem kg155 : kgC 155 5 = true := by sorry
theorem fk155 : fkC 155 = 3 := by sorry
theorem kg156 : kgC 156 5 = true := by sorry
theorem fk156 : fkC 156 = 3 := by sorry
theorem kg157 : kgC 157 5 = true := by sorry
theorem fk157 : fkC 157 = 3 := by sorry
theorem kg158 : kgC 158 5 = true := by sorry
theorem fk158 : fkC 158 = 3 := by sorry
theorem kg159 : kgC 159 5 = true := by sorry
theorem fk159 : fkC 159 = 3 := by sorry
theorem kg160 : kgC 160 5 = true := by sorry
theorem fk160 : fkC 160 = 0 := by sorry
theorem kg161 : kgC 161 5 = true := by sorry
theorem fk161 : fkC 161 = 0 := by sorry
theorem kp161 : kpC 161 5 = true := by sorry
theorem kg162 : kgC 162 5 = true := by sorry
theorem fk162 : fkC 162 = 0 := by sorry
theorem kp162 : kpC 162 5 = true := by sorry
theorem kg163 : kgC 163 5 = true := by sorry
theorem fk163 : fkC 163 = 0 := by sorry
theorem kp163 : kpC 163 5 = true := by sorry
theorem kg164 : kgC 164 5 = true := by sorry
theorem fk164 : fkC 164 = 0 := by sorry
theorem kp164 : kpC 164 5 = true := by sorry
theorem kg165 : kgC 165 5 = true := by sorry
theorem fk165 : fkC 165 = 0 := by sorry
theorem kg166 : kgC 166 5 = true := by sorry
theorem fk166 : fkC 166 = 0 := by sorry
theorem kp166 : kpC 166 5 = true := by sorry
theorem kg167 : kgC 167 5 = true := by sorry
theorem fk167 : fkC 167 = 0 := by sorry
theorem kg168 : kgC 168 5 = true := by sorry
theorem fk168 : fkC 168 = 0 := by sorry
theorem kp168 : kpC 168 5 = true := by sorry
theorem kg169 : kgC 169 5 = true := by sorry
theorem fk169 : fkC 169 = 0 := by sorry
theorem kp169 : kpC 169 5 = true := by sorry
theorem kg170 : kgC 170 5 = true := by sorry
theorem fk170 : fkC 170 = 2 := by sorry
theorem kp170 : kpC 170 5 = true := by sorry
theorem kg180 : kgC 180 6 = true := by sorry
theorem fk180 : fkC 180 = 0 := by sorry
theorem kg181 : kgC 181 6 = true := by sorry
theorem fk181 : fkC 181 = 2 := by sorry
theorem kg182 : kgC 182 6 = true := by sorry
theorem fk182 : fkC 182 = 0 := by sorry
theorem kg183 : kgC 183 6 = true := by sorry
theorem fk183 : fkC 183 = 3 := by sorry
theorem kg184 : kgC 184 6 = true := by sorry
theorem fk184 : fkC 184 = 0 := by sorry
theorem kg185 : kgC 185 6 = true := by sorry
theorem fk185 : fkC 185 = 0 := by sorry
theorem kp185 : kpC 185 6 = true := by sorry
theorem kg186 : kgC 186 6 = true := by sorry
theorem fk186 : fkC 186 = 3 := by sorry
theorem kg210 : kgC 210 7 = true := by sorry
theorem fk210 : fkC 210 = 3 := by sorry
theorem kg211 : kgC 211 7 = true := by sorry
theorem fk211 : fkC 211 = 3 := by sorry
theorem kg212 : kgC 212 7 = true := by sorry
theorem fk212 : fkC 212 = 3 := by sorry
theorem kg213 : kgC 213 7 = true := by sorry
theorem fk213 : fkC 213 = 3 := by sorry
theorem kg214 : kgC 214 7 = true := by sorry
theorem fk214 : fkC 214 = 3 := by sorry
theorem kg215 : kgC 215 7 = true := by sorry
theorem fk215 : fkC 215 = 3 := by sorry
theorem kg216 : kgC 216 7 = true := by sorry
theorem fk216 : fkC 216 = 3 := by sorry
theorem kg217 : kgC 217 7 = true := by sorry
theorem fk217 : fkC 217 = 0 := by sorry
theorem kp217 : kpC 217 7 = true := by sorry
theorem kg218 : kgC 218 7 = true := by sorry
theorem fk218 : fkC 218 = 0 := by sorry
theorem kp218 : kpC 218 7 = true := by sorry
theorem kg240 : kgC 240 8 = true := by sorry
theorem fk240 : fkC 240 = 3 := by sorry
theorem kp240 : kpC 240 8 = true := by sorry
theorem rf240 {σ : CsC} {a b : Nat} (t : TyC σ b 7) : RfC σ a 240 (some b) := by sorry
theorem kg241 : kgC 241 8 = true := by sorry
theorem fk241 : fkC 241 = 3 := by sorry
theorem kp241 : kpC 241 8 = true := by sorry
theorem rf241 {σ : CsC} {a b : Nat} (t : TyC σ b 10) : RfC σ a 241 (some b) := by sorry
theorem kg242 : kgC 242 8 = true := by sorry
theorem fk242 : fkC 242 = 0 := by sorry
theorem kp242 : kpC 242 8 = true := by sorry
theorem kg243 : kgC 243 8 = true := by sorry
theorem fk243 : fkC 243 = 0 := by sorry
theorem kp243 : kpC 243 8 = true := by sorry
theorem kg244 : kgC 244 8 = true := by sorry
theorem fk244 : fkC 244 = 0 := by sorry
theorem kp244 : kpC 244 8 = true := by sorry
theorem kg245 : kgC 245 8 = true := by sorry
theorem fk245 : fkC 245 = 2 := by sorry
theorem kp245 : kpC 245 8 = true := by sorry
theorem kg246 : kgC 246 8 = true := by sorry
theorem fk246 : fkC 246 = 3 := by sorry
theorem kp246 : kpC 246 8 = true := by sorry
theorem rf246 {σ : CsC} {a b : Nat} (t : TyC σ b 9) : RfC σ a 246 (some b) := by sorry
theorem rfo246 {σ : CsC} {a : Nat} {o : Option Nat} (t : OtC σ o 9) : RfC σ a 246 o := by sorry
theorem kg270 : kgC 270 9 = true := by sorry
theorem fk270 : fkC 270 = 0 := by sorry
theorem kg271 : kgC 271 9 = true := by sorry
theorem fk271 : fkC 271 = 0 := by sorry
theorem kg272 : kgC 272 9 = true := by sorry
theorem fk272 : fkC 272 = 0 := by sorry
theorem kg273 : kgC 273 9 = true := by sorry
theorem fk273 : fkC 273 = 3 := by sorry
theorem kg274 : kgC 274 9 = true := by sorry
theorem fk274 : fkC 274 = 2 := by sorry
theorem kg275 : kgC 275 9 = true := by sorry
theorem fk275 : fkC 275 = 3 := by sorry
theorem kg276 : kgC 276 9 = true := by sorry
theorem fk276 : fkC 276 = 3 := by sorry
theorem kg277 : kgC 277 9 = true := by sorry
theorem fk277 : fkC 277 = 3 := by sorry
theorem kg278 : kgC 278 9 = true := by sorry
theorem fk278 : fkC 278 = 3 := by sorry
theorem kg279 : kgC 279 9 = true := by sorry
theorem fk279 : fkC 279 = 3 := by sorry
theorem kp279 : kpC 279 9 = true := by sorry
theorem rf279 {σ : CsC} {a b : Nat} (t : TyC σ b 2) : RfC σ a 279 (some b) := by sorry
theorem rfo279 {σ : CsC} {a : Nat} {o : Option Nat} (t : OtC σ o 2) : RfC σ a 279 o := by sorry
theorem kg280 : kgC 280 9 = true := by sorry
theorem fk280 : fkC 280 = 0 := by sorry
theorem kg281 : kgC 281 9 = true := by sorry
theorem fk281 : fkC 281 = 3 := by sorry
theorem kp281 : kpC 281 9 = true := by sorry
theorem rf281 {σ : CsC} {a b : Nat} (t : TyC σ b 9) : RfC σ a 281 (some b) := by sorry
theorem rfo281 {σ : CsC} {a : Nat} {o : Option Nat} (t : OtC σ o 9) : RfC σ a 281 o := by sorry
theorem kg282 : kgC 282 9 = true := by sorry
theorem fk282 : fkC 282 = 1 := by sorry
theorem kp282 : kpC 282 9 = true := by sorry
theorem kg283 : kgC 283 9 = true := by sorry
theorem fk283 : fkC 283 = 1 := by sorry
theorem kp283 : kpC 283 9 = true := by sorry
theorem kg284 : kgC 284 9 = true := by sorry
theorem fk284 : fkC 284 = 1 := by sorry
theorem kp284 : kpC 284 9 = true := by sorry
theorem kg285 : kgC 285 9 = true := by sorry
theorem fk285 : fkC 285 = 2 := by sorry
theorem kp285 : kpC 285 9 = true := by sorry
theorem kg286 : kgC 286 9 = true := by sorry
theorem fk286 : fkC 286 = 2 := by sorry
theorem kp286 : kpC 286 9 = true := by sorry
theorem kg287 : kgC 287 9 = true := by sorry
theorem fk287 : fkC 287 = 2 := by sorry
theorem kp287 : kpC 287 9 = true := by sorry
theorem kg288 : kgC 288 9 = true := by sorry
theorem fk288 : fkC 288 = 2 := by sorry
theorem kp288 : kpC 288 9 = true := by sorry
theorem kg289 : kgC 289 9 = true := by sorry
theorem fk289 : fkC 289 = 0 := by sorry
theorem kp289 : kpC 289 9 = true := by sorry
theorem kg290 : kgC 290 9 = true := by sorry
theorem fk290 : fkC 290 = 0 := by sorry
theorem kp290 : kpC 290 9 = true := by sorry
theorem kg300 : kgC 300 10 = true := by sorry
theorem fk300 : fkC 300 = 3 := by sorry
theorem kg301 : kgC 301 10 = true := by sorry
theorem fk301 : fkC 301 = 3 := by sorry
theorem kg302 : kgC 302 10 = true := by sorry
theorem fk302 : fkC 302 = 3 := by sorry
theorem kg303 : kgC 303 10 = true := by sorry
theorem fk303 : fkC 303 = 3 := by sorry
theorem kg304 : kgC 304 10 = true := by sorry
theorem fk304 : fkC 304 = 3 := by sorry
theorem kg305 : kgC 305 10 = true := by sorry
theorem fk305 : fkC 305 = 0 := by sorry
theorem kp305 : kpC 305 10 = true := by sorry
theorem kg306 : kgC 306 10 = true := by sorry
theorem fk306 : fkC 306 = 3 := by sorry
theorem kg307 : kgC 307 10 = true := by sorry
theorem fk307 : fkC 307 = 3 := by sorry
theorem kg308 : kgC 308 10 = true := by sorry
theorem fk308 : fkC 308 = 0 := by sorry
theorem kg330 : kgC 330 11 = true := by sorry
theorem fk330 : fkC 330 = 0 := by sorry
theorem kg331 : kgC 331 11 = true := by sorry
theorem fk331 : fkC 331 = 0 := by sorry
theorem kg332 : kgC 332 11 = true := by sorry
theorem fk332 : fkC 332 = 1 := by sorry
theorem kg333 : kgC 333 11 = true := by sorry
theorem fk333 : fkC 333 = 0 := by sorry
theorem kg334 : kgC 334 11 = true := by sorry
theorem fk334 : fkC 334 = 1 := by sorry
theorem kp334 : kpC 334 11 = true := by sorry
theorem kg335 : kgC 335 11 = true := by sorry
theorem fk335 : fkC 335 = 1 := by sorry
theorem kp335 : kpC 335 11 = true := by sorry
theorem kg336 : kgC 336 11 = true := by sorry
theorem fk336 : fkC 336 = 2 := by sorry
theorem kp336 : kpC 336 11 = true := by sorry
theorem kg360 : kgC 360 12 = true := by sorry
theorem fk360 : fkC 360 = 3 := by sorry
theorem kg361 : kgC 361 12 = true := by sorry
theorem fk361 : fkC 361 = 3 := by sorry
theorem kg362 : kgC 362 12 = true := by sorry
theorem fk362 : fkC 362 = 3 := by sorry
theorem kg363 : kgC 363 12 = true := by sorry
theorem fk363 : fkC 363 = 3 := by sorry
theorem kp363 : kpC 363 12 = true := by sorry
theorem rf363 {σ : CsC} {a b : Nat} (t : TyC σ b 7) : RfC σ a 363 (some b) := by sorry
theorem kg364 : kgC 364 12 = true := by sorry
theorem fk364 : fkC 364 = 3 := by sorry
theorem kp364 : kpC 364 12 = true := by sorry
theorem rf364 {σ : CsC} {a b : Nat} (t : TyC σ b 7) : RfC σ a 364 (some b) := by sorry
theorem kg365 : kgC 365 12 = true := by sorry
theorem fk365 : fkC 365 = 3 := by sorry
theorem kg366 : kgC 366 12 = true := by sorry
theorem fk366 : fkC 366 = 3 := by sorry
theorem kg367 : kgC 367 12 = true := by sorry
theorem fk367 : fkC 367 = 3 := by sorry
theorem kg368 : kgC 368 12 = true := by sorry
theorem fk368 : fkC 368 = 3 := by sorry
theorem kg369 : kgC 369 12 = true := by sorry
theorem fk369 : fkC 369 = 0 := by sorry
theorem kp369 : kpC 369 12 = true := by sorry
theorem kg370 : kgC 370 12 = true := by sorry
theorem fk370 : fkC 370 = 0 := by sorry
theorem kp370 : kpC 370 12 = true := by sorry
theorem kg371 : kgC 371 12 = true := by sorry
theorem fk371 : fkC 371 = 0 := by sorry
theorem kp371 : kpC 371 12 = true := by sorry
theorem kg372 : kgC 372 12 = true := by sorry
theorem fk372 : fkC 372 = 1 := by sorry
theorem kp372 : kpC 372 12 = true := by sorry
/-! fields that hang on one another -/
theorem HIC.x5 {σ : CsC} {a : Nat} (h : HIC σ) (t : TyC σ a 5) : (fIC σ a 167).toInt ≤ (fIC σ a 165).toInt := ((h.1 a t.1).2.2.2.1 t.2.1).1
theorem HIC.x5i {σ : CsC} {a r : Nat} {x : Int32} (h : HIC σ) (t : TyC σ a 5) (e1 : fRC σ a 159 = some r) (e2 : fIC σ a 160 = x) : x.toInt ≤ alC σ r := by sorry
theorem HIC.x10 {σ : CsC} {a r : Nat} {x : Int32} (h : HIC σ) (t : TyC σ a 10) (e1 : fRC σ a 307 = some r) (e2 : fIC σ a 308 = x) : x.toInt ≤ alC σ r := by sorry
/-- an int field that others hang on: the object's own part is to be shown -/
theorem HIC.pIx {σ : CsC} {a k c : Nat} {v : Int32} (h : HIC σ) (t : TyC σ a c) (hf : finC k = false) (h280 : k ≠ 280) (hv : IvC k v) (hx : XaC (pIC σ a k v) a) : HIC (pIC σ a k v) := by sorry
theorem HIC.pRx {σ : CsC} {a k c : Nat} {v : Option Nat} (h : HIC σ) (t : TyC σ a c) (hf : finC k = false) (hw : k ≠ 73 ∨ v ≠ none) (hv : RfC σ a k v) (hx : XaC (pRC σ a k v) a) : HIC (pRC σ a k v) := by sorry
theorem XaC.of5 {σ : CsC} {a : Nat} (ht : tgC σ a = 5) (h : X5C σ a) : XaC σ a := by sorry
theorem XaC.of9 {σ : CsC} {a : Nat} (ht : tgC σ a = 9) (h : X9C σ a) : XaC σ a := by sorry
theorem XaC.of10 {σ : CsC} {a : Nat} (ht : tgC σ a = 10) (h : X10C σ a) : XaC σ a := by sorry
theorem XaC.of2 {σ : CsC} {a : Nat} (ht : tgC σ a = 2) (h : X2C σ a) : XaC σ a := by sorry
theorem HIC.p165 {σ : CsC} {a : Nat} {x v : Int32} (h : HIC σ) (t : TyC σ a 5) (e : fIC σ a 165 = x) (h1 : x.toInt ≤ v.toInt) (h2 : v.toInt ≤ 20000) : HIC (pIC σ a 165 v) := by sorry
theorem HIC.p167 {σ : CsC} {a : Nat} {x v : Int32} (h : HIC σ) (t : TyC σ a 5) (e : fIC σ a 165 = x) (h0 : 0 ≤ v.toInt) (h1 : v.toInt ≤ x.toInt) : HIC (pIC σ a 167 v) := by sorry
section KR2
variable {ct : CcC} {K : CkC} {Z : Option AvC → CsC → Prop} {is : List RI} {pc d b : Nat} {q : Int} {cs : List (Int × Nat)} {ls : ClC} {st : List AvC} {σ : CsC}
theorem k_p165 {j a : Nat} {x w : Int32} (hI : HIC σ) (t : TyC σ a 5) (e : fIC σ a 165 = x) (h1 : x.toInt ≤ w.toInt) (h2 : w.toInt ≤ 20000) (h : ∀ τ, HIC τ → ExC [165] σ τ → fIC τ a 165 = w → cwpC ct K Z is (pc + 3) ls st τ) : cwpC ct K Z ((.putfield j, d, q, 165, cs) :: is) pc ls (.inl w :: .inr (.inr (some a)) :: st) σ := by sorry
theorem k_p167 {j a : Nat} {x w : Int32} (hI : HIC σ) (t : TyC σ a 5) (e : fIC σ a 165 = x) (h1 : 0 ≤ w.toInt) (h2 : w.toInt ≤ x.toInt) (h : ∀ τ, HIC τ → ExC [167] σ τ → fIC τ a 167 = w → cwpC ct K Z is (pc + 3) ls st τ) : cwpC ct K Z ((.putfield j, d, q, 167, cs) :: is) pc ls (.inl w :: .inr (.inr (some a)) :: st) σ := by sorry
end KR2
/-- how deep what is within a statement can go -/
def RkC (σ : CsC) (a n : Nat) : Prop := 60 - 2 * (fIC σ a 272).toInt ≤ (n : Int) ∧ ((fIC σ a 270).toInt = 68 ∨ (fIC σ a 270).toInt = 60 → 61 - 2 * (fIC σ a 272).toInt ≤ (n : Int))
def RowC (σ : CsC) (a n : Nat) : Prop := 61 - 2 * (fIC σ a 272).toInt ≤ (n : Int) ∨ (60 - 2 * (fIC σ a 272).toInt ≤ (n : Int) ∧ ((fIC σ a 270).toInt = 93 ∨ (fIC σ a 270).toInt = 94))
theorem RowC.rk {σ : CsC} {a n : Nat} (h : RowC σ a n) : RkC σ a n := by sorry
theorem RowC.nx {σ : CsC} {a b n : Nat} (h : RowC σ a n) (x : NxC σ a b) : RowC σ b n := by sorry
theorem RkC.ch {σ : CsC} {a b n : Nat} (h : RkC σ a (n + 1)) (x : LvC σ a b) : RkC σ b n := by sorry
theorem RkC.row {σ : CsC} {a b n : Nat} (h : RkC σ a (n + 1)) (x : LvC σ a b) {k : Int32} (e : fIC σ a 270 = k) (hk : ¬ k.toInt = 68) : RowC σ b n := by sorry
theorem RkC.x {M : List Nat} {σ τ : CsC} {a n : Nat} (h : RkC σ a n) (t : TyC σ a 9) (e : ExC M σ τ) : RkC τ a n := by sorry
theorem RowC.x {M : List Nat} {σ τ : CsC} {a n : Nat} (h : RowC σ a n) (t : TyC σ a 9) (e : ExC M σ τ) : RowC τ a n := by sorry
theorem RkC.no {σ : CsC} {a : Nat} (hI : HIC σ) (t : TyC σ a 9) (h : RkC σ a 0) : False := by sorry
theorem RkC.top {σ : CsC} {a : Nat} (hI : HIC σ) (t : TyC σ a 9) : RkC σ a 61 := by sorry
theorem CMetC.no {l : Launch} {lev μ : Nat} {P : CpC} {Q : CqC} {r : CmC} (hr : mtC[μ]? = some r) (h : ∀ As σ, ¬ P As σ) : CMetC l lev μ P Q := ⟨r, hr, fun _ _ _ σ _ As hP => absurd hP (h As σ)⟩
/-- a text and its length -/
theorem HIC.p307 {σ : CsC} {a r : Nat} {v : Int32} (h : HIC σ) (t : TyC σ a 10) (tr : TyC σ r 101) (h0 : 0 ≤ v.toInt) (h1 : v.toInt ≤ alC σ r) : HIC (pIC (pRC σ a 307 (some r)) a 308 v) ∧ ExC [307, 308] σ (pIC (pRC σ a 307 (some r)) a 308 v) := by sorry
theorem cc0C {l : Launch} {lev : Nat} : ∀ q ∈ ([] : CcC), ∃ lv, lv < lev ∧ CMetC l lv q.1 q.2.1 q.2.2 := fun _ h => absurd h List.not_mem_nil
theorem cc1C {l : Launch} {lev lv μ : Nat} {P : CpC} {Q : CqC} {r : CcC} (h : CMetC l lv μ P Q) (hl : lv < lev) (hr : ∀ q ∈ r, ∃ lv, lv < lev ∧ CMetC l lv q.1 q.2.1 q.2.2) : ∀ q ∈ (μ, P, Q) :: r, ∃ lv, lv < lev ∧ CMetC l lv q.1 q.2.1 q.2.2 := by sorry
theorem kgoC {bs : RB} {ct : CcC} {K : CkC} {Z : Option AvC → CsC → Prop} {pc : Nat} {is : List RI} {ls : ClC} {st : List AvC} {σ : CsC} (h : rfd bs pc = some is) (w : cwpC ct K Z is pc ls st σ) : cgoC bs ct K Z pc ls st σ := by sorry
def msNC (c : Nat) (o : Option Nat) : Nat := match o with
  | none => 0
  | some b => c - b
def msPC (o : Option Nat) : Nat := match o with
  | none => 0
  | some b => b + 1

theorem keep0 {σ τ : CsC} {a b : Nat} (h : (fIC σ a 2).toInt = 0) (p : (fIC τ b 2).toInt = 0) (q : ∀ a, a ≠ b → fIC τ a 2 = fIC σ a 2) : (fIC τ a 2).toInt = 0 := by sorry
def slnC (c : Nat) : Int := match c with
  | 1000003 => 135
  | 1000004 => 3
  | 1000005 => 2
  | 1000006 => 112
  | _ => 0
abbrev P_Jx4a65c_size_8abf5 : CpC := fun As σ => ∃ (p0 : Nat), As = [.inr (.inr (some p0))] ∧ HIC σ ∧ TyC σ p0 0
abbrev Q_Jx4a65c_size_8abf5 : CqC := fun As σ w τ => match As with
  | [.inr (.inr (some p0))] => ∃ r : Int32, w = some (.inl r) ∧ σ = τ ∧ 0 ≤ r.toInt ∧ r.toInt ≤ 20000 ∧ (fIC σ p0 2 = r) ∧ (ghC σ p0 = 6 → r.toInt ≤ 100)
  | _ => False
abbrev P_Jx4a65c_get_915e3 : CpC := fun As σ => ∃ (p0 : Nat) (p1 : Int32), As = [.inr (.inr (some p0)), .inl p1] ∧ HIC σ ∧ TyC σ p0 0 ∧ 0 ≤ p1.toInt ∧ p1.toInt < (fIC σ p0 2).toInt
abbrev Q_Jx4a65c_get_915e3 : CqC := fun As σ w τ => match As with
  | [.inr (.inr (some p0)), .inl p1] => ∃ r : Nat, w = some (.inr (.inr (some r))) ∧ σ = τ ∧ ElC τ (ghC τ p0) r
  | _ => False
abbrev P_Jx4a65c_clear_da8c8 : CpC := fun As σ => ∃ (p0 : Nat), As = [.inr (.inr (some p0))] ∧ HIC σ ∧ TyC σ p0 0
abbrev Q_Jx4a65c_clear_da8c8 : CqC := fun As σ w τ => match As with
  | [.inr (.inr (some p0))] => w = none ∧ HIC τ ∧ ExC [0, 2] σ τ ∧ ((fIC τ p0 2).toInt = 0) ∧ ((∀ a, a ≠ p0 → fIC τ a 2 = fIC σ a 2)) ∧ ((∀ b, b < cnC σ → tgC σ b = 0 → b ≠ p0 → ∀ j : Nat, (j : Int) < (fIC σ b 2).toInt → elC τ b j = elC σ b j))
  | _ => False
abbrev P_J0_length_8abf5 : CpC := fun As σ => ∃ (p0 : Nat), As = [.inr (.inr (some p0))] ∧ HIC σ ∧ (p0 = 1000003 ∨ p0 = 1000004 ∨ p0 = 1000005 ∨ p0 = 1000006)
abbrev Q_J0_length_8abf5 : CqC := fun As σ w τ => match As with
  | [.inr (.inr (some p0))] => ∃ r : Int32, w = some (.inl r) ∧ σ = τ ∧ 0 ≤ r.toInt ∧ r.toInt ≤ 1000 ∧ (r.toInt = slnC p0)
  | _ => False
abbrev P_J0_charAt_5068e : CpC := fun As σ => ∃ (p0 : Nat) (p1 : Int32), As = [.inr (.inr (some p0)), .inl p1] ∧ HIC σ ∧ (p0 = 1000003 ∨ p0 = 1000004 ∨ p0 = 1000005 ∨ p0 = 1000006) ∧ 0 ≤ p1.toInt ∧ p1.toInt < slnC p0
abbrev Q_J0_charAt_5068e : CqC := fun As σ w τ => match As with
  | [.inr (.inr (some p0)), .inl p1] => ∃ r : Int32, w = some (.inl r) ∧ σ = τ ∧ (r = chrV (p0 - 1000003) p1)
  | _ => False
abbrev P_X11_strength : CpC := fun As σ => ∃ (p0 : Int32), As = [.inl p0] ∧ HIC σ
abbrev Q_X11_strength : CqC := fun As σ w τ => match As with
  | [.inl p0] => ∃ r : Int32, w = some (.inl r) ∧ σ = τ ∧ (0 < r.toInt → 20 ≤ p0.toInt ∧ p0.toInt ≤ 38) ∧ ((20 ≤ p0.toInt → p0.toInt ≤ 38 → 0 < r.toInt))
  | _ => False
abbrev P_X11_operatorOf : CpC := fun As σ => ∃ (p0 : Int32), As = [.inl p0] ∧ HIC σ
abbrev Q_X11_operatorOf : CqC := fun As σ w τ => match As with
  | [.inl p0] => ∃ r : Int32, w = some (.inl r) ∧ σ = τ
  | _ => False
/-! rows of instructions that are one step -/
theorem HIC.p159 {σ : CsC} {a r : Nat} {v : Int32} (h : HIC σ) (t : TyC σ a 5) (tr : TyC σ r 100) (hg : ghC σ r = 0) (h0 : 0 ≤ v.toInt) (h1 : v.toInt ≤ alC σ r) : HIC (pIC (pRC σ a 159 (some r)) a 160 v) ∧ ExC [159, 160] σ (pIC (pRC σ a 159 (some r)) a 160 v) := by sorry
theorem pIC_comm {σ : CsC} {a k j : Nat} {v w : Int32} (h : j ≠ k) : pIC (pIC σ a k v) a j w = pIC (pIC σ a j w) a k v := by sorry
theorem HIC.pz {σ : CsC} {a : Nat} {u v w : Int32} (h : HIC σ) (t : TyC σ a 5) (hu : u.toInt = 0) (hv : v.toInt = 0) (hw : w.toInt = 0) : HIC (pIC (pIC (pIC σ a 165 u) a 166 v) a 167 w) ∧ ExC [165, 166, 167] σ (pIC (pIC (pIC σ a 165 u) a 166 v) a 167 w) := by sorry
section KR3
variable {ct : CcC} {K : CkC} {Z : Option AvC → CsC → Prop} {is : List RI} {pc d b : Nat} {q : Int} {cs : List (Int × Nat)} {ls : ClC} {st : List AvC} {σ : CsC}
theorem k_x307 {j1 j2 j3 d1 d2 d3 d4 d5 d6 d7 b5 a r n : Nat} {q1 q2 q3 q4 q5 q7 : Int} {s1 s2 s3 s4 s5 s6 s7 : List (Int × Nat)} {x : Int32} (l0 : lkC ls 0 = some (.inr (.inr (some a)))) (l2 : lkC ls 2 = some (.inl x)) (l1 : lkC ls 1 = some (.inr (.inr (some r)))) (h8 : csC st ≤ 6) (hI : HIC σ) (t : TyC σ a 10) (tr : TyC σ r 101) (hn : alC σ r = n) (hn2 : n < 2147483648) (hx : 0 ≤ x.toInt) (h : ∀ τ, HIC τ → ExC [307, 308] σ τ → (fIC τ a 308).toInt ≤ x.toInt → cwpC ct K Z is (pc + 3 + 1 + 1 + 1 + 1 + 3 + 3) ls st τ) :
    cwpC ct K Z ((.putfield j1, d1, q1, 307, s1) :: (.aload_n 0, d2, q2, 0, s2) :: (.iload_n 2, d3, q3, 2, s3) :: (.aload_n 1, d4, q4, 1, s4) :: (.arraylength, d5, q5, b5, s5) :: (.invokestatic j2, d6, 2, 9996, s6) :: (.putfield j3, d7, q7, 308, s7) :: is) pc ls (.inr (.inr (some r)) :: .inr (.inr (some a)) :: st) σ := by sorry
theorem k_x159 {j1 j2 j3 d1 d2 d3 d4 d5 d6 d7 b5 a r n : Nat} {q1 q2 q3 q4 q5 q7 : Int} {s1 s2 s3 s4 s5 s6 s7 : List (Int × Nat)} {x : Int32} (l0 : lkC ls 0 = some (.inr (.inr (some a)))) (l2 : lkC ls 2 = some (.inl x)) (l1 : lkC ls 1 = some (.inr (.inr (some r)))) (h8 : csC st ≤ 6) (hI : HIC σ) (t : TyC σ a 5) (tr : TyC σ r 100) (hg : ghC σ r = 0) (hn : alC σ r = n) (hn2 : n < 2147483648) (hx : 0 ≤ x.toInt) (h : ∀ τ, HIC τ → ExC [159, 160] σ τ → (fIC τ a 160).toInt ≤ x.toInt → cwpC ct K Z is (pc + 3 + 1 + 1 + 1 + 1 + 3 + 3) ls st τ) :
    cwpC ct K Z ((.putfield j1, d1, q1, 159, s1) :: (.aload_n 0, d2, q2, 0, s2) :: (.iload_n 2, d3, q3, 2, s3) :: (.aload_n 1, d4, q4, 1, s4) :: (.arraylength, d5, q5, b5, s5) :: (.invokestatic j2, d6, 2, 9996, s6) :: (.putfield j3, d7, q7, 160, s7) :: is) pc ls (.inr (.inr (some r)) :: .inr (.inr (some a)) :: st) σ := by sorry
theorem k_z165 {j1 j2 j3 d1 d2 d3 d4 d5 d6 d7 b3 b6 a : Nat} {q1 q2 q3 q4 q5 q6 q7 : Int} {s1 s2 s3 s4 s5 s6 s7 : List (Int × Nat)} {u : Int32} (l0 : lkC ls 0 = some (.inr (.inr (some a)))) (hI : HIC σ) (t : TyC σ a 5) (hu : u.toInt = 0) (h : ∀ τ, HIC τ → ExC [165, 166, 167] σ τ → cwpC ct K Z is (pc + 3 + 1 + 1 + 3 + 1 + 1 + 3) ls st τ) :
    cwpC ct K Z ((.putfield j1, d1, q1, 165, s1) :: (.aload_n 0, d2, q2, 0, s2) :: (.iconst 0, d3, q3, b3, s3) :: (.putfield j2, d4, q4, 166, s4) :: (.aload_n 0, d5, q5, 0, s5) :: (.iconst 0, d6, q6, b6, s6) :: (.putfield j3, d7, q7, 167, s7) :: is) pc ls (.inl u :: .inr (.inr (some a)) :: st) σ := by sorry
end KR3
/-! objects under construction -/
def RawC (σ : CsC) (a c : Nat) : Prop := a < cnC σ ∧ tgC σ a = c + 50 ∧ c < 13
/-- as ExC, the object a apart -/
def ExT (a : Nat) (M : List Nat) (σ τ : CsC) : Prop := cnC σ ≤ cnC τ ∧ (τ.1.2 = σ.1.2 ∧ (M.elem 999 = false → τ.1 = σ.1) ∧ (∀ b, b < cnC σ → b ≠ a → prC M (tgC σ b) (ghC σ b) = true → eIC τ b = eIC σ b ∧ eLC τ b = eLC σ b)) ∧ ∀ b, b < cnC σ → b ≠ a → (tgC τ b = tgC σ b ∧ alC τ b = alC σ b ∧ ghC τ b = ghC σ b) ∧ (tgC σ b < 13 → ∀ k, finC k = true → fIC τ b k = fIC σ b k ∧ fRC τ b k = fRC σ b k) ∧ ((tgC σ b = 2 → WhC σ b → WhC τ b) ∧ (tgC σ b = 103 → M.elem 2 = false → eRC τ b = eRC σ b)) ∧ ∀ k, M.elem k = false → fIC τ b k = fIC σ b k ∧ fRC τ b k = fRC σ b k
theorem ExC.t {a : Nat} {M : List Nat} {σ τ : CsC} (h : ExC M σ τ) : ExT a M σ τ := by sorry
theorem ExT.tr {a : Nat} {M : List Nat} {σ τ υ : CsC} (h1 : ExT a M σ τ) (h2 : ExT a M τ υ) : ExT a M σ υ := by sorry
theorem ExT.mo {a : Nat} {M M' : List Nat} {σ τ : CsC} (h : ExT a M σ τ) (hm : M.all (fun k => M'.elem k) = true) : ExT a M' σ τ := by sorry
/-- what was made between is not seen from before -/
theorem ExC.nt {a : Nat} {M : List Nat} {σ σ1 τ : CsC} (h : ExC M σ σ1) (ha : cnC σ ≤ a) (e : ExT a M σ1 τ) : ExC M σ τ := by sorry
theorem RawC.ne {σ : CsC} {a b c c' : Nat} (r : RawC σ a c) (t : TyC σ b c') (h : c' < 50 ∨ 100 ≤ c') : b ≠ a := by sorry
theorem TyC.xt {a d : Nat} {M : List Nat} {σ τ : CsC} {b c : Nat} (t : TyC σ b c) (r : RawC σ a d) (h : c < 50 ∨ 100 ≤ c) (e : ExT a M σ τ) : TyC τ b c := by sorry
theorem TyC.alt {a d : Nat} {M : List Nat} {σ τ : CsC} {b c : Nat} (t : TyC σ b c) (r : RawC σ a d) (h : c < 50 ∨ 100 ≤ c) (e : ExT a M σ τ) : alC τ b = alC σ b := (e.2.2 b t.1 (r.ne t h)).1.2.1
theorem TyC.ght {a d : Nat} {M : List Nat} {σ τ : CsC} {b c : Nat} (t : TyC σ b c) (r : RawC σ a d) (h : c < 50 ∨ 100 ≤ c) (e : ExT a M σ τ) : ghC τ b = ghC σ b := (e.2.2 b t.1 (r.ne t h)).1.2.2
theorem TyC.mit {a d : Nat} {M : List Nat} {σ τ : CsC} {b c : Nat} (t : TyC σ b c) (r : RawC σ a d) (h : c < 50 ∨ 100 ≤ c) (e : ExT a M σ τ) {k : Nat} (hk : M.elem k = false) : fIC τ b k = fIC σ b k := ((e.2.2 b t.1 (r.ne t h)).2.2.2 k hk).1
theorem TyC.mrt {a d : Nat} {M : List Nat} {σ τ : CsC} {b c : Nat} (t : TyC σ b c) (r : RawC σ a d) (h : c < 50 ∨ 100 ≤ c) (e : ExT a M σ τ) {k : Nat} (hk : M.elem k = false) : fRC τ b k = fRC σ b k := ((e.2.2 b t.1 (r.ne t h)).2.2.2 k hk).2
theorem TyC.fit {a d : Nat} {M : List Nat} {σ τ : CsC} {b c : Nat} (t : TyC σ b c) (r : RawC σ a d) (h : c < 50 ∨ 100 ≤ c) (e : ExT a M σ τ) (hc : c < 13) {k : Nat} (hk : finC k = true) : fIC τ b k = fIC σ b k := by sorry
theorem TyC.frt {a d : Nat} {M : List Nat} {σ τ : CsC} {b c : Nat} (t : TyC σ b c) (r : RawC σ a d) (h : c < 50 ∨ 100 ≤ c) (e : ExT a M σ τ) (hc : c < 13) {k : Nat} (hk : finC k = true) : fRC τ b k = fRC σ b k := by sorry
theorem OtC.xt {a d : Nat} {M : List Nat} {σ τ : CsC} {o : Option Nat} {c : Nat} (t : OtC σ o c) (r : RawC σ a d) (h : c < 50 ∨ 100 ≤ c) (e : ExT a M σ τ) : OtC τ o c := fun b hb => (t b hb).xt r h e
theorem RawC.mi {M : List Nat} {σ τ : CsC} {a c : Nat} (r : RawC σ a c) (e : ExC M σ τ) {k : Nat} (hk : M.elem k = false) : fIC τ a k = fIC σ a k := ((e.2.2 a r.1).2.2.2 k hk).1
theorem RawC.mr {M : List Nat} {σ τ : CsC} {a c : Nat} (r : RawC σ a c) (e : ExC M σ τ) {k : Nat} (hk : M.elem k = false) : fRC τ a k = fRC σ a k := ((e.2.2 a r.1).2.2.2 k hk).2
theorem RawC.mit {M : List Nat} {σ τ : CsC} {a b c : Nat} (r : RawC σ a c) (h : a ≠ b) (e : ExT b M σ τ) {k : Nat} (hk : M.elem k = false) : fIC τ a k = fIC σ a k := ((e.2.2 a r.1 h).2.2.2 k hk).1
theorem RawC.mrt {M : List Nat} {σ τ : CsC} {a b c : Nat} (r : RawC σ a c) (h : a ≠ b) (e : ExT b M σ τ) {k : Nat} (hk : M.elem k = false) : fRC τ a k = fRC σ a k := ((e.2.2 a r.1 h).2.2.2 k hk).2
theorem RawC.nr {σ : CsC} {a b c d : Nat} (r : RawC σ a c) (s : RawC σ b d) (h : c ≠ d) : a ≠ b := fun q => by subst q; have := r.2.1; have := s.2.1; omega
theorem XaC.no {σ : CsC} {a c : Nat} (ht : tgC σ a = c) (h : [0, 2, 5, 6, 9, 10, 100, 104, 105].elem c = false) : XaC σ a := by sorry
theorem XaC.of6 {σ : CsC} {a : Nat} (ht : tgC σ a = 6) (h : X6C σ a) : XaC σ a := by sorry
theorem XaC.of0 {σ : CsC} {a : Nat} (ht : tgC σ a = 0) (h : X0C σ a) : XaC σ a := by sorry
theorem rT_tg {σ : CsC} {a t g : Nat} : tgC (rTC σ a t g) a = t := by sorry
theorem rT_gh {σ : CsC} {a t g : Nat} : ghC (rTC σ a t g) a = g := by sorry
theorem RawC.we {σ : CsC} {a c g : Nat} (r : RawC σ a c) : WeC σ (rTC σ a c g) := by sorry
theorem RawC.x {M : List Nat} {σ τ : CsC} {a c : Nat} (r : RawC σ a c) (e : ExC M σ τ) : RawC τ a c := by sorry
theorem RawC.xt {M : List Nat} {σ τ : CsC} {a b c : Nat} (r : RawC σ a c) (h : a ≠ b) (e : ExT b M σ τ) : RawC τ a c := by sorry
theorem RawC.ob {σ : CsC} {a c : Nat} (r : RawC σ a c) : ObC σ a c := by sorry
theorem RawC.ge {σ : CsC} {a c : Nat} (r : RawC σ a c) : 13 ≤ tgC σ a := by sorry
theorem ExT.pI {σ : CsC} {a k : Nat} {v : Int32} : ExT a [] σ (pIC σ a k v) := by sorry
theorem ExT.pR {σ : CsC} {a k : Nat} {v : Option Nat} : ExT a [] σ (pRC σ a k v) := by sorry
theorem ExT.rT {σ : CsC} {a t g : Nat} : ExT a [] σ (rTC σ a t g) := by sorry
theorem RfC.xr {a d : Nat} {M : List Nat} {σ τ : CsC} {b k : Nat} {o : Option Nat} (r : RawC σ a d) (hk : (rfC k).2.1 < 50 ∨ 100 ≤ (rfC k).2.1) (e : ExT a M σ τ) (h : RfC σ b k o) : RfC τ b k o := by sorry
set_option maxRecDepth 100000 in
theorem rfC_tag (k : Nat) : (rfC k).2.1 < 50 ∨ 100 ≤ (rfC k).2.1 := by sorry
/-- an object is finished -/
theorem HIC.fin {σ : CsC} {a c g : Nat} (h : HIC σ) (r : RawC σ a c) (hg : ghC σ a = g) (hf : ∀ k, k / 30 = c → IvC k (fIC σ a k) ∧ RfC σ a k (fRC σ a k)) (hx : XaC (rTC σ a c g) a) (hl : c = 9 → (fIC σ a 270).toInt = 6 → 0 ≤ (fIC σ a 280).toInt) : HIC (rTC σ a c g) := by sorry
/-- a NAME: is finished, its NAME still to come -/
theorem HIC.fin6 {σ : CsC} {a c g : Nat} (h : HIC σ) (r : RawC σ a c) (hg : ghC σ a = g) (hf : ∀ k, k / 30 = c → IvC k (fIC σ a k) ∧ RfC σ a k (fRC σ a k)) (hx : XaC (rTC σ a c g) a) : HI0 (rTC σ a c g) ∧ LbC (rTC σ a c g) (some a) := by sorry
/-- all fields nought -/
def ZrC (σ : CsC) (a : Nat) : Prop := ∀ k, fIC σ a k = 0 ∧ fRC σ a k = none
theorem HIC.p280x {σ : CsC} {a : Nat} {v : Int32} (h : HI0 σ ∧ LbC σ (some a)) (t : TyC σ a 9) (hv : IvC 280 v) (hl : 0 ≤ v.toInt) : HIC (pIC σ a 280 v) := by sorry
section KR9
variable {ct : CcC} {K : CkC} {Z : Option AvC → CsC → Prop} {is : List RI} {pc d b : Nat} {q : Int} {cs : List (Int × Nat)} {ls : ClC} {st : List AvC} {σ : CsC}
theorem k_p280x {j a : Nat} {w : Int32} (hI : HI0 σ ∧ LbC σ (some a)) (t : TyC σ a 9) (h1 : 0 ≤ w.toInt) (h2 : w.toInt ≤ 502) (h : ∀ τ, HIC τ → ExC [280] σ τ → fIC τ a 280 = w → cwpC ct K Z is (pc + 3) ls st τ) : cwpC ct K Z ((.putfield j, d, q, 280, cs) :: is) pc ls (.inl w :: .inr (.inr (some a)) :: st) σ := by sorry
theorem k_new {j c g : Nat} (hI : HIC σ) (hc : c < 13) (hg : q.toNat = g) (h1 : cnC σ + 1 ≤ cpC σ) (h2 : slC σ + nfC c ≤ spC σ) (h : ∀ (a : Nat) τ, a = cnC σ → HIC τ → ExC [999] σ τ → RawC τ a c → ZrC τ a → ghC τ a = g → cnC τ = cnC σ + 1 → slC τ = slC σ + nfC c → cwpC ct K Z is (pc + 3) ls (.inr (.inr (some a)) :: st) τ) : cwpC ct K Z ((.new j, d, q, c, cs) :: is) pc ls st σ := by sorry
theorem nwC {t n g : Nat} (ht : 100 ≤ t) : TyC (nAC σ t n g) (cnC σ) t ∧ alC (nAC σ t n g) (cnC σ) = n ∧ ghC (nAC σ t n g) (cnC σ) = g := by sorry
theorem k_newarray {at_ : ArrayType} {x : Int32} {t g n : Nat} (hI : HIC σ) (ht : 100 ≤ t) (hg : q.toNat = g) (hx : x.toInt = (n : Int)) (hn : n ≤ 1000000) (h1 : cnC σ + 1 ≤ cpC σ) (h2 : slC σ + n ≤ spC σ) (h : ∀ (a : Nat) τ, a = cnC σ → HIC τ → ExC [999] σ τ → TyC τ a t → alC τ a = n → ghC τ a = g → cnC τ = cnC σ + 1 → slC τ = slC σ + n → cwpC ct K Z is (pc + 2) ls (.inr (.inr (some a)) :: st) τ) : cwpC ct K Z ((.newarray at_, d, q, t, cs) :: is) pc ls (.inl x :: st) σ := by sorry
theorem k_anewarray {j : Nat} {x : Int32} {t g n : Nat} (hI : HIC σ) (ht : 100 ≤ t) (hg : q.toNat = g) (hx : x.toInt = (n : Int)) (hn : n ≤ 1000000) (h1 : cnC σ + 1 ≤ cpC σ) (h2 : slC σ + n ≤ spC σ) (h : ∀ (a : Nat) τ, a = cnC σ → HIC τ → ExC [999] σ τ → TyC τ a t → alC τ a = n → ghC τ a = g → cnC τ = cnC σ + 1 → slC τ = slC σ + n → cwpC ct K Z is (pc + 3) ls (.inr (.inr (some a)) :: st) τ) : cwpC ct K Z ((.anewarray j, d, q, t, cs) :: is) pc ls (.inl x :: st) σ := by sorry
theorem k_putIW {j k c a : Nat} {w : Int32} (hI : HIC σ) (r : RawC σ a c) (hk : k / 30 = c) (hf : fkC k = 0 ∨ (fkC k = 1 ∧ (w = 0 ∨ w = 1))) (h : ∀ τ, HIC τ → ExT a [] σ τ → RawC τ a c → fIC τ a k = w → (∀ j, j ≠ k → fIC τ a j = fIC σ a j) → (∀ j, fRC τ a j = fRC σ a j) → ghC τ a = ghC σ a → cwpC ct K Z is (pc + 3) ls st τ) : cwpC ct K Z ((.putfield j, d, q, k, cs) :: is) pc ls (.inl w :: .inr (.inr (some a)) :: st) σ := by sorry
theorem k_putLW {j k c a : Nat} {w : Int64} (hI : HIC σ) (r : RawC σ a c) (hk : k / 30 = c) (hf : fkC k = 2) (h : ∀ τ, HIC τ → ExT a [] σ τ → RawC τ a c → (∀ j, fIC τ a j = fIC σ a j) → (∀ j, fRC τ a j = fRC σ a j) → ghC τ a = ghC σ a → cwpC ct K Z is (pc + 3) ls st τ) : cwpC ct K Z ((.putfield j, d, q, k, cs) :: is) pc ls (.inr (.inl w) :: .inr (.inr (some a)) :: st) σ := by sorry
theorem k_putRW {j k c a : Nat} {w : Option Nat} (hI : HIC σ) (r : RawC σ a c) (hk : k / 30 = c) (hf : fkC k = 3) (h : ∀ τ, HIC τ → ExT a [] σ τ → RawC τ a c → fRC τ a k = w → (∀ j, fIC τ a j = fIC σ a j) → (∀ j, j ≠ k → fRC τ a j = fRC σ a j) → ghC τ a = ghC σ a → cwpC ct K Z is (pc + 3) ls st τ) : cwpC ct K Z ((.putfield j, d, q, k, cs) :: is) pc ls (.inr (.inr w) :: .inr (.inr (some a)) :: st) σ := by sorry
end KR9
theorem IvC_fr {k : Nat} {x : Int32} (h : inC k = (-2147483648, 2147483647)) : IvC k x := by sorry
theorem RfC_fr {σ : CsC} {a k : Nat} {o : Option Nat} (h : rfC k = (1, 999, 9999, 0, 9999)) : RfC σ a k o := by sorry
def frC (k : Nat) : Bool := decide ((inC k).1 = -2147483648) && (decide ((inC k).2 = 2147483647) && (Nat.beq (rfC k).1 1 && (Nat.beq (rfC k).2.1 999 && (Nat.beq (rfC k).2.2.1 9999 && (Nat.beq (rfC k).2.2.2.1 0 && Nat.beq (rfC k).2.2.2.2 9999)))))
theorem frC_ok {k : Nat} (h : frC k = true) : inC k = (-2147483648, 2147483647) ∧ rfC k = (1, 999, 9999, 0, 9999) := by sorry
set_option maxRecDepth 100000 in
theorem fn0 {σ : CsC} {a : Nat} (h2 : IvC 2 (fIC σ a 2)) : ∀ k, k / 30 = 0 → IvC k (fIC σ a k) ∧ RfC σ a k (fRC σ a k) := by sorry
set_option maxRecDepth 100000 in
theorem fn1 {σ : CsC} {a : Nat} (h30 : RfC σ a 30 (fRC σ a 30)) (h31 : RfC σ a 31 (fRC σ a 31)) (h32 : RfC σ a 32 (fRC σ a 32)) (h33 : RfC σ a 33 (fRC σ a 33)) (h34 : IvC 34 (fIC σ a 34)) (h35 : RfC σ a 35 (fRC σ a 35)) (h36 : RfC σ a 36 (fRC σ a 36)) : ∀ k, k / 30 = 1 → IvC k (fIC σ a k) ∧ RfC σ a k (fRC σ a k) := by sorry
set_option maxRecDepth 100000 in
theorem fn2 {σ : CsC} {a : Nat} (h62 : IvC 62 (fIC σ a 62)) (h63 : IvC 63 (fIC σ a 63)) (h66 : IvC 66 (fIC σ a 66)) (h70 : IvC 70 (fIC σ a 70)) (h72 : RfC σ a 72 (fRC σ a 72)) (h73 : RfC σ a 73 (fRC σ a 73)) (h74 : RfC σ a 74 (fRC σ a 74)) (h76 : RfC σ a 76 (fRC σ a 76)) (h77 : IvC 77 (fIC σ a 77)) : ∀ k, k / 30 = 2 → IvC k (fIC σ a k) ∧ RfC σ a k (fRC σ a k) := by sorry
set_option maxRecDepth 100000 in
theorem fn3 {σ : CsC} {a : Nat} (h90 : RfC σ a 90 (fRC σ a 90)) (h93 : RfC σ a 93 (fRC σ a 93)) (h94 : IvC 94 (fIC σ a 94)) : ∀ k, k / 30 = 3 → IvC k (fIC σ a k) ∧ RfC σ a k (fRC σ a k) := by sorry
set_option maxRecDepth 100000 in
theorem fn4 {σ : CsC} {a : Nat} (h120 : RfC σ a 120 (fRC σ a 120)) (h121 : RfC σ a 121 (fRC σ a 121)) : ∀ k, k / 30 = 4 → IvC k (fIC σ a k) ∧ RfC σ a k (fRC σ a k) := by sorry
set_option maxRecDepth 100000 in
theorem fn5 {σ : CsC} {a : Nat} (h150 : RfC σ a 150 (fRC σ a 150)) (h151 : RfC σ a 151 (fRC σ a 151)) (h152 : RfC σ a 152 (fRC σ a 152)) (h153 : RfC σ a 153 (fRC σ a 153)) (h154 : RfC σ a 154 (fRC σ a 154)) (h155 : RfC σ a 155 (fRC σ a 155)) (h156 : RfC σ a 156 (fRC σ a 156)) (h157 : RfC σ a 157 (fRC σ a 157)) (h158 : RfC σ a 158 (fRC σ a 158)) (h159 : RfC σ a 159 (fRC σ a 159)) (h162 : IvC 162 (fIC σ a 162)) (h163 : IvC 163 (fIC σ a 163)) (h164 : IvC 164 (fIC σ a 164)) (h165 : IvC 165 (fIC σ a 165)) (h166 : IvC 166 (fIC σ a 166)) (h167 : IvC 167 (fIC σ a 167)) : ∀ k, k / 30 = 5 → IvC k (fIC σ a k) ∧ RfC σ a k (fRC σ a k) := by sorry
set_option maxRecDepth 100000 in
theorem fn6 {σ : CsC} {a : Nat} (h180 : IvC 180 (fIC σ a 180)) (h183 : RfC σ a 183 (fRC σ a 183)) (h185 : IvC 185 (fIC σ a 185)) (h186 : RfC σ a 186 (fRC σ a 186)) : ∀ k, k / 30 = 6 → IvC k (fIC σ a k) ∧ RfC σ a k (fRC σ a k) := by sorry
set_option maxRecDepth 100000 in
theorem fn7 {σ : CsC} {a : Nat} (h210 : RfC σ a 210 (fRC σ a 210)) (h211 : RfC σ a 211 (fRC σ a 211)) (h212 : RfC σ a 212 (fRC σ a 212)) (h213 : RfC σ a 213 (fRC σ a 213)) (h214 : RfC σ a 214 (fRC σ a 214)) (h215 : RfC σ a 215 (fRC σ a 215)) (h216 : RfC σ a 216 (fRC σ a 216)) : ∀ k, k / 30 = 7 → IvC k (fIC σ a k) ∧ RfC σ a k (fRC σ a k) := by sorry
set_option maxRecDepth 100000 in
theorem fn8 {σ : CsC} {a : Nat} (h240 : RfC σ a 240 (fRC σ a 240)) (h241 : RfC σ a 241 (fRC σ a 241)) (h242 : IvC 242 (fIC σ a 242)) (h243 : IvC 243 (fIC σ a 243)) (h246 : RfC σ a 246 (fRC σ a 246)) : ∀ k, k / 30 = 8 → IvC k (fIC σ a k) ∧ RfC σ a k (fRC σ a k) := by sorry
set_option maxRecDepth 100000 in
theorem fn9 {σ : CsC} {a : Nat} (h271 : IvC 271 (fIC σ a 271)) (h272 : IvC 272 (fIC σ a 272)) (h273 : RfC σ a 273 (fRC σ a 273)) (h275 : RfC σ a 275 (fRC σ a 275)) (h276 : RfC σ a 276 (fRC σ a 276)) (h277 : RfC σ a 277 (fRC σ a 277)) (h278 : RfC σ a 278 (fRC σ a 278)) (h279 : RfC σ a 279 (fRC σ a 279)) (h280 : IvC 280 (fIC σ a 280)) (h281 : RfC σ a 281 (fRC σ a 281)) (h282 : IvC 282 (fIC σ a 282)) (h283 : IvC 283 (fIC σ a 283)) (h284 : IvC 284 (fIC σ a 284)) : ∀ k, k / 30 = 9 → IvC k (fIC σ a k) ∧ RfC σ a k (fRC σ a k) := by sorry
set_option maxRecDepth 100000 in
theorem fn10 {σ : CsC} {a : Nat} (h300 : RfC σ a 300 (fRC σ a 300)) (h301 : RfC σ a 301 (fRC σ a 301)) (h302 : RfC σ a 302 (fRC σ a 302)) (h303 : RfC σ a 303 (fRC σ a 303)) (h304 : RfC σ a 304 (fRC σ a 304)) (h305 : IvC 305 (fIC σ a 305)) (h306 : RfC σ a 306 (fRC σ a 306)) (h307 : RfC σ a 307 (fRC σ a 307)) (h308 : IvC 308 (fIC σ a 308)) : ∀ k, k / 30 = 10 → IvC k (fIC σ a k) ∧ RfC σ a k (fRC σ a k) := by sorry
set_option maxRecDepth 100000 in
theorem fn11 {σ : CsC} {a : Nat} (h330 : IvC 330 (fIC σ a 330)) (h332 : IvC 332 (fIC σ a 332)) (h334 : IvC 334 (fIC σ a 334)) (h335 : IvC 335 (fIC σ a 335)) : ∀ k, k / 30 = 11 → IvC k (fIC σ a k) ∧ RfC σ a k (fRC σ a k) := by sorry
set_option maxRecDepth 100000 in
theorem fn12 {σ : CsC} {a : Nat} (h360 : RfC σ a 360 (fRC σ a 360)) (h361 : RfC σ a 361 (fRC σ a 361)) (h362 : RfC σ a 362 (fRC σ a 362)) (h363 : RfC σ a 363 (fRC σ a 363)) (h364 : RfC σ a 364 (fRC σ a 364)) (h365 : RfC σ a 365 (fRC σ a 365)) (h366 : RfC σ a 366 (fRC σ a 366)) (h367 : RfC σ a 367 (fRC σ a 367)) (h368 : RfC σ a 368 (fRC σ a 368)) (h369 : IvC 369 (fIC σ a 369)) (h370 : IvC 370 (fIC σ a 370)) (h372 : IvC 372 (fIC σ a 372)) : ∀ k, k / 30 = 12 → IvC k (fIC σ a k) ∧ RfC σ a k (fRC σ a k) := by sorry
