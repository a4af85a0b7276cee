def RX0 : String := "SpansAway$Blocks"
def TX0 : u_T := fun k => match k with
  | 0 => ("SpansAway$Blocks", "first", "[I", true)
  | 1 => ("SpansAway$Blocks", "order", "[I", true)
  | 2 => ("SpansAway$Blocks", "kind", "[I", true)
  | 3 => ("SpansAway$Blocks", "owner", "[I", true)
  | 4 => ("SpansAway$Blocks", "pins", "[I", true)
  | 5 => ("SpansAway$Blocks", "target", "[I", true)
  | 6 => ("SpansAway$Blocks", "copied", "[I", true)
  | 7 => ("SpansAway$Blocks", "used", "[I", true)
  | _ => ("SpansAway$Blocks", "uses", "I", false)
def tyX0 : Nat → FieldType := fun k => match k with
  | 0 => .array .int
  | 1 => .array .int
  | 2 => .array .int
  | 3 => .array .int
  | 4 => .array .int
  | 5 => .array .int
  | 6 => .array .int
  | 7 => .array .int
  | _ => .int
abbrev wsX00 : List Cond := u_ws RX0 TX0 9
theorem nmX0 : ∀ a, a < 9 → ∀ b, b < 9 → a ≠ b → (TX0 a).2.1 ≠ (TX0 b).2.1 := by decide +kernel
theorem tyX0_ok : ∀ k, k < 9 → parseFieldDescriptor (TX0 k).2.2.1 = some (tyX0 k) := by decide +kernel
def RX1 : String := "SpansAway$Frames"
def TX1 : u_T := fun k => match k with
  | 0 => ("SpansAway$Frames", "free", "[I", true)
  | 1 => ("SpansAway$Frames", "apart", "[I", true)
  | 2 => ("SpansAway$Frames", "taken", "[I", true)
  | 3 => ("SpansAway$Frames", "held", "[I", true)
  | 4 => ("SpansAway$Frames", "blockOf", "[I", true)
  | _ => ("SpansAway$Frames", "value", "[I", true)
def tyX1 : Nat → FieldType := fun k => match k with
  | 0 => .array .int
  | 1 => .array .int
  | 2 => .array .int
  | 3 => .array .int
  | 4 => .array .int
  | _ => .array .int
abbrev wsX10 : List Cond := u_ws RX1 TX1 6
theorem nmX1 : ∀ a, a < 6 → ∀ b, b < 6 → a ≠ b → (TX1 a).2.1 ≠ (TX1 b).2.1 := by decide +kernel
theorem tyX1_ok : ∀ k, k < 6 → parseFieldDescriptor (TX1 k).2.2.1 = some (tyX1 k) := by decide +kernel
def RX2 : String := "SpansAway$Going"
def TX2 : u_T := fun k => match k with
  | 0 => ("SpansAway$Going", "memory", "LSpansAway$Memory;", true)
  | 1 => ("SpansAway$Going", "frames", "LSpansAway$Frames;", true)
  | 2 => ("SpansAway$Going", "blocks", "LSpansAway$Blocks;", true)
  | _ => ("SpansAway$Going", "spans", "LSpansAway$Spans;", true)
def tyX2 : Nat → FieldType := fun k => match k with
  | 0 => .object "SpansAway$Memory"
  | 1 => .object "SpansAway$Frames"
  | 2 => .object "SpansAway$Blocks"
  | _ => .object "SpansAway$Spans"
abbrev wsX20 : List Cond := u_ws RX2 TX2 4
theorem nmX2 : ∀ a, a < 4 → ∀ b, b < 4 → a ≠ b → (TX2 a).2.1 ≠ (TX2 b).2.1 := by decide +kernel
theorem tyX2_ok : ∀ k, k < 4 → parseFieldDescriptor (TX2 k).2.2.1 = some (tyX2 k) := by decide +kernel
def RX3 : String := "SpansAway$Log"
def TX3 : u_T := fun k => match k with
  | 0 => ("SpansAway$Log", "tick", "[I", true)
  | 1 => ("SpansAway$Log", "what", "[I", true)
  | 2 => ("SpansAway$Log", "one", "[I", true)
  | 3 => ("SpansAway$Log", "other", "[I", true)
  | 4 => ("SpansAway$Log", "lines", "I", false)
  | _ => ("SpansAway$Log", "next", "I", false)
def tyX3 : Nat → FieldType := fun k => match k with
  | 0 => .array .int
  | 1 => .array .int
  | 2 => .array .int
  | 3 => .array .int
  | 4 => .int
  | _ => .int
abbrev wsX30 : List Cond := u_ws RX3 TX3 6
theorem nmX3 : ∀ a, a < 6 → ∀ b, b < 6 → a ≠ b → (TX3 a).2.1 ≠ (TX3 b).2.1 := by decide +kernel
theorem tyX3_ok : ∀ k, k < 6 → parseFieldDescriptor (TX3 k).2.2.1 = some (tyX3 k) := by decide +kernel
def RX4 : String := "SpansAway$Memory"
def TX4 : u_T := fun k => match k with
  | 0 => ("SpansAway$Memory", "frames", "LSpansAway$Frames;", true)
  | 1 => ("SpansAway$Memory", "blocks", "LSpansAway$Blocks;", true)
  | 2 => ("SpansAway$Memory", "spans", "LSpansAway$Spans;", true)
  | 3 => ("SpansAway$Memory", "tasks", "LSpansAway$Tasks;", true)
  | 4 => ("SpansAway$Memory", "log", "LSpansAway$Log;", true)
  | 5 => ("SpansAway$Memory", "told", "[I", true)
  | 6 => ("SpansAway$Memory", "counts", "[I", true)
  | _ => ("SpansAway$Memory", "tick", "I", false)
def tyX4 : Nat → FieldType := fun k => match k with
  | 0 => .object "SpansAway$Frames"
  | 1 => .object "SpansAway$Blocks"
  | 2 => .object "SpansAway$Spans"
  | 3 => .object "SpansAway$Tasks"
  | 4 => .object "SpansAway$Log"
  | 5 => .array .int
  | 6 => .array .int
  | _ => .int
abbrev wsX40 : List Cond := u_ws RX4 TX4 8
theorem nmX4 : ∀ a, a < 8 → ∀ b, b < 8 → a ≠ b → (TX4 a).2.1 ≠ (TX4 b).2.1 := by decide +kernel
theorem tyX4_ok : ∀ k, k < 8 → parseFieldDescriptor (TX4 k).2.2.1 = some (tyX4 k) := by decide +kernel
def RX5 : String := "SpansAway$Rows"
def TX5 : u_T := fun k => match k with
  | _ => ("", "", "", false)
def tyX5 : Nat → FieldType := fun k => match k with
  | _ => .int
abbrev wsX50 : List Cond := u_ws RX5 TX5 0
theorem nmX5 : ∀ a, a < 0 → ∀ b, b < 0 → a ≠ b → (TX5 a).2.1 ≠ (TX5 b).2.1 := by decide +kernel
theorem tyX5_ok : ∀ k, k < 0 → parseFieldDescriptor (TX5 k).2.2.1 = some (tyX5 k) := by decide +kernel
def RX6 : String := "SpansAway$Spans"
def TX6 : u_T := fun k => match k with
  | 0 => ("SpansAway$Spans", "state", "[I", true)
  | 1 => ("SpansAway$Spans", "zone", "[I", true)
  | 2 => ("SpansAway$Spans", "shut", "[I", true)
  | 3 => ("SpansAway$Spans", "pass", "[I", true)
  | 4 => ("SpansAway$Spans", "pause", "[I", true)
  | 5 => ("SpansAway$Spans", "reached", "[I", true)
  | 6 => ("SpansAway$Spans", "leaving", "[I", true)
  | _ => ("SpansAway$Spans", "why", "[I", true)
def tyX6 : Nat → FieldType := fun k => match k with
  | 0 => .array .int
  | 1 => .array .int
  | 2 => .array .int
  | 3 => .array .int
  | 4 => .array .int
  | 5 => .array .int
  | 6 => .array .int
  | _ => .array .int
abbrev wsX60 : List Cond := u_ws RX6 TX6 8
theorem nmX6 : ∀ a, a < 8 → ∀ b, b < 8 → a ≠ b → (TX6 a).2.1 ≠ (TX6 b).2.1 := by decide +kernel
theorem tyX6_ok : ∀ k, k < 8 → parseFieldDescriptor (TX6 k).2.2.1 = some (tyX6 k) := by decide +kernel
def RX7 : String := "SpansAway$Tasks"
def TX7 : u_T := fun k => match k with
  | 0 => ("SpansAway$Tasks", "home", "[I", true)
  | 1 => ("SpansAway$Tasks", "waitsFor", "[I", true)
  | 2 => ("SpansAway$Tasks", "lastRead", "[I", true)
  | 3 => ("SpansAway$Tasks", "wish", "[I", true)
  | 4 => ("SpansAway$Tasks", "wishAt", "[I", true)
  | 5 => ("SpansAway$Tasks", "wishValue", "[I", true)
  | 6 => ("SpansAway$Tasks", "line", "[I", true)
  | _ => ("SpansAway$Tasks", "inLine", "I", false)
def tyX7 : Nat → FieldType := fun k => match k with
  | 0 => .array .int
  | 1 => .array .int
  | 2 => .array .int
  | 3 => .array .int
  | 4 => .array .int
  | 5 => .array .int
  | 6 => .array .int
  | _ => .int
abbrev wsX70 : List Cond := u_ws RX7 TX7 8
theorem nmX7 : ∀ a, a < 8 → ∀ b, b < 8 → a ≠ b → (TX7 a).2.1 ≠ (TX7 b).2.1 := by decide +kernel
theorem tyX7_ok : ∀ k, k < 8 → parseFieldDescriptor (TX7 k).2.2.1 = some (tyX7 k) := by decide +kernel
def RX8 : String := "SpansAway$Thought"
def TX8 : u_T := fun k => match k with
  | 0 => ("SpansAway$Thought", "going", "LSpansAway$Going;", true)
  | 1 => ("SpansAway$Thought", "trial", "LSpansAway$Memory;", true)
  | 2 => ("SpansAway$Thought", "then", "LSpansAway$Memory;", true)
  | 3 => ("SpansAway$Thought", "ticks", "I", false)
  | _ => ("SpansAway$Thought", "fewest", "I", false)
def tyX8 : Nat → FieldType := fun k => match k with
  | 0 => .object "SpansAway$Going"
  | 1 => .object "SpansAway$Memory"
  | 2 => .object "SpansAway$Memory"
  | 3 => .int
  | _ => .int
abbrev wsX80 : List Cond := u_ws RX8 TX8 5
theorem nmX8 : ∀ a, a < 5 → ∀ b, b < 5 → a ≠ b → (TX8 a).2.1 ≠ (TX8 b).2.1 := by decide +kernel
theorem tyX8_ok : ∀ k, k < 5 → parseFieldDescriptor (TX8 k).2.2.1 = some (tyX8 k) := by decide +kernel
def RX9 : String := "SpansAway"
def TX9 : u_T := fun k => match k with
  | 0 => ("SpansAway", "going", "LSpansAway$Going;", true)
  | 1 => ("SpansAway", "now", "LSpansAway$Memory;", true)
  | 2 => ("SpansAway", "kept", "LSpansAway$Memory;", true)
  | 3 => ("SpansAway", "thought", "LSpansAway$Thought;", true)
  | _ => ("SpansAway", "isKept", "Z", false)
def tyX9 : Nat → FieldType := fun k => match k with
  | 0 => .object "SpansAway$Going"
  | 1 => .object "SpansAway$Memory"
  | 2 => .object "SpansAway$Memory"
  | 3 => .object "SpansAway$Thought"
  | _ => .boolean
abbrev wsX90 : List Cond := u_ws RX9 TX9 5
theorem nmX9 : ∀ a, a < 5 → ∀ b, b < 5 → a ≠ b → (TX9 a).2.1 ≠ (TX9 b).2.1 := by decide +kernel
theorem tyX9_ok : ∀ k, k < 5 → parseFieldDescriptor (TX9 k).2.2.1 = some (tyX9 k) := by decide +kernel
def RX10 : String := "SpansAwayModel"
def TX10 : u_T := fun k => match k with
  | 0 => ("SpansAwayModel", "told", "I", false)
  | 1 => ("SpansAwayModel", "now", "[I", true)
  | 2 => ("SpansAwayModel", "waiting", "[I", true)
  | 3 => ("SpansAwayModel", "deeper", "[I", true)
  | 4 => ("SpansAwayModel", "isDone", "[Z", true)
  | 5 => ("SpansAwayModel", "easiestTicks", "I", false)
  | 6 => ("SpansAwayModel", "hasImage", "Z", false)
  | _ => ("SpansAwayModel", "images", "[I", true)
def tyX10 : Nat → FieldType := fun k => match k with
  | 0 => .int
  | 1 => .array .int
  | 2 => .array .int
  | 3 => .array .int
  | 4 => .array .boolean
  | 5 => .int
  | 6 => .boolean
  | _ => .array .int
abbrev wsX100 : List Cond := u_ws RX10 TX10 8
theorem nmX10 : ∀ a, a < 8 → ∀ b, b < 8 → a ≠ b → (TX10 a).2.1 ≠ (TX10 b).2.1 := by decide +kernel
theorem tyX10_ok : ∀ k, k < 8 → parseFieldDescriptor (TX10 k).2.2.1 = some (tyX10 k) := by decide +kernel
abbrev vwCl : List vw_C := [(RX0, TX0, 9), (RX1, TX1, 6), (RX2, TX2, 4), (RX3, TX3, 6), (RX4, TX4, 8), (RX6, TX6, 8), (RX7, TX7, 8), (RX8, TX8, 5), (RX9, TX9, 5), (RX10, TX10, 8)]
