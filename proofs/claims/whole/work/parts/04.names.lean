/-! NAMES, by program (wip/whole/gen/g04.py): classes, fields, methods by number, the words of the tables by their places, the shapes of the objects -/
def RX0 : String := "WingTrams$Beams"
def TX0 : u_T := fun k => match k with
  | 0 => ("WingTrams$Beams", "city", "LWingTrams$City;", true)
  | 1 => ("WingTrams$Beams", "apart", "LWingTrams$Row;", true)
  | 2 => ("WingTrams$Beams", "near", "LWingTrams$Row;", true)
  | 3 => ("WingTrams$Beams", "most", "I", false)
  | _ => ("WingTrams$Beams", "set", "I", false)
def tyX0 : Nat → FieldType := fun k => match k with
  | 0 => .object "WingTrams$City"
  | 1 => .object "WingTrams$Row"
  | 2 => .object "WingTrams$Row"
  | 3 => .int
  | _ => .int
theorem nmX0 : ∀ a, a < 5 → ∀ b, b < 5 → a ≠ b → (TX0 a).2.1 ≠ (TX0 b).2.1 := by decide +kernel
theorem tyX0_ok : ∀ k, k < 5 → parseFieldDescriptor (TX0 k).2.2.1 = some (tyX0 k) := by decide +kernel
def RX1 : String := "WingTrams$City"
def TX1 : u_T := fun k => match k with
  | 0 => ("WingTrams$City", "roofs", "I", false)
  | 1 => ("WingTrams$City", "flights", "I", false)
  | 2 => ("WingTrams$City", "owls", "I", false)
  | 3 => ("WingTrams$City", "riders", "I", false)
  | 4 => ("WingTrams$City", "dawn", "I", false)
  | 5 => ("WingTrams$City", "grain", "LWingTrams$Row;", true)
  | 6 => ("WingTrams$City", "minutes", "LWingTrams$Row;", true)
  | 7 => ("WingTrams$City", "kind", "LWingTrams$Row;", true)
  | 8 => ("WingTrams$City", "start", "LWingTrams$Row;", true)
  | 9 => ("WingTrams$City", "length", "LWingTrams$Row;", true)
  | 10 => ("WingTrams$City", "way", "LWingTrams$Row;", true)
  | 11 => ("WingTrams$City", "from", "LWingTrams$Row;", true)
  | 12 => ("WingTrams$City", "home", "LWingTrams$Row;", true)
  | 13 => ("WingTrams$City", "since", "LWingTrams$Row;", true)
  | 14 => ("WingTrams$City", "fur", "LWingTrams$Row;", true)
  | _ => ("WingTrams$City", "rules", "LWingTrams$Rules;", true)
def tyX1 : Nat → FieldType := fun k => match k with
  | 0 => .int
  | 1 => .int
  | 2 => .int
  | 3 => .int
  | 4 => .int
  | 5 => .object "WingTrams$Row"
  | 6 => .object "WingTrams$Row"
  | 7 => .object "WingTrams$Row"
  | 8 => .object "WingTrams$Row"
  | 9 => .object "WingTrams$Row"
  | 10 => .object "WingTrams$Row"
  | 11 => .object "WingTrams$Row"
  | 12 => .object "WingTrams$Row"
  | 13 => .object "WingTrams$Row"
  | 14 => .object "WingTrams$Row"
  | _ => .object "WingTrams$Rules"
theorem nmX1 : ∀ a, a < 16 → ∀ b, b < 16 → a ≠ b → (TX1 a).2.1 ≠ (TX1 b).2.1 := by decide +kernel
theorem tyX1_ok : ∀ k, k < 16 → parseFieldDescriptor (TX1 k).2.2.1 = some (tyX1 k) := by decide +kernel
def RX2 : String := "WingTrams$Log"
def TX2 : u_T := fun k => match k with
  | 0 => ("WingTrams$Log", "count", "I", false)
  | 1 => ("WingTrams$Log", "room", "I", true)
  | 2 => ("WingTrams$Log", "first", "LWingTrams$Row;", true)
  | 3 => ("WingTrams$Log", "second", "LWingTrams$Row;", true)
  | _ => ("WingTrams$Log", "third", "LWingTrams$Row;", true)
def tyX2 : Nat → FieldType := fun k => match k with
  | 0 => .int
  | 1 => .int
  | 2 => .object "WingTrams$Row"
  | 3 => .object "WingTrams$Row"
  | _ => .object "WingTrams$Row"
theorem nmX2 : ∀ a, a < 5 → ∀ b, b < 5 → a ≠ b → (TX2 a).2.1 ≠ (TX2 b).2.1 := by decide +kernel
theorem tyX2_ok : ∀ k, k < 5 → parseFieldDescriptor (TX2 k).2.2.1 = some (tyX2 k) := by decide +kernel
def RX3 : String := "WingTrams$Night"
def TX3 : u_T := fun k => match k with
  | 0 => ("WingTrams$Night", "city", "LWingTrams$City;", true)
  | 1 => ("WingTrams$Night", "comes", "LWingTrams$Row;", true)
  | 2 => ("WingTrams$Night", "leaves", "LWingTrams$Row;", true)
  | 3 => ("WingTrams$Night", "mice", "LWingTrams$Row;", true)
  | 4 => ("WingTrams$Night", "caught", "LWingTrams$Row;", true)
  | 5 => ("WingTrams$Night", "reached", "LWingTrams$Row;", true)
  | 6 => ("WingTrams$Night", "order", "LWingTrams$Row;", true)
  | 7 => ("WingTrams$Night", "comings", "I", false)
  | 8 => ("WingTrams$Night", "due", "LWingTrams$Row;", true)
  | 9 => ("WingTrams$Night", "values", "LWingTrams$Row;", true)
  | _ => ("WingTrams$Night", "marks", "LWingTrams$Row;", true)
def tyX3 : Nat → FieldType := fun k => match k with
  | 0 => .object "WingTrams$City"
  | 1 => .object "WingTrams$Row"
  | 2 => .object "WingTrams$Row"
  | 3 => .object "WingTrams$Row"
  | 4 => .object "WingTrams$Row"
  | 5 => .object "WingTrams$Row"
  | 6 => .object "WingTrams$Row"
  | 7 => .int
  | 8 => .object "WingTrams$Row"
  | 9 => .object "WingTrams$Row"
  | _ => .object "WingTrams$Row"
theorem nmX3 : ∀ a, a < 11 → ∀ b, b < 11 → a ≠ b → (TX3 a).2.1 ≠ (TX3 b).2.1 := by decide +kernel
theorem tyX3_ok : ∀ k, k < 11 → parseFieldDescriptor (TX3 k).2.2.1 = some (tyX3 k) := by decide +kernel
def RX4 : String := "WingTrams$Reader"
def TX4 : u_T := fun k => match k with
  | 0 => ("WingTrams$Reader", "tokens", "LWingTrams$Tokens;", true)
  | 1 => ("WingTrams$Reader", "city", "LWingTrams$City;", true)
  | 2 => ("WingTrams$Reader", "at", "I", false)
  | 3 => ("WingTrams$Reader", "fault", "I", false)
  | 4 => ("WingTrams$Reader", "place", "I", false)
  | _ => ("WingTrams$Reader", "dawnTold", "Z", false)
def tyX4 : Nat → FieldType := fun k => match k with
  | 0 => .object "WingTrams$Tokens"
  | 1 => .object "WingTrams$City"
  | 2 => .int
  | 3 => .int
  | 4 => .int
  | _ => .boolean
theorem nmX4 : ∀ a, a < 6 → ∀ b, b < 6 → a ≠ b → (TX4 a).2.1 ≠ (TX4 b).2.1 := by decide +kernel
theorem tyX4_ok : ∀ k, k < 6 → parseFieldDescriptor (TX4 k).2.2.1 = some (tyX4 k) := by decide +kernel
def RX5 : String := "WingTrams$Rides"
def TX5 : u_T := fun k => match k with
  | 0 => ("WingTrams$Rides", "city", "LWingTrams$City;", true)
  | 1 => ("WingTrams$Rides", "night", "LWingTrams$Night;", true)
  | 2 => ("WingTrams$Rides", "arrival", "LWingTrams$Row;", true)
  | 3 => ("WingTrams$Rides", "riding", "LWingTrams$Row;", true)
  | 4 => ("WingTrams$Rides", "soonest", "LWingTrams$Row;", true)
  | _ => ("WingTrams$Rides", "load", "LWingTrams$Row;", true)
def tyX5 : Nat → FieldType := fun k => match k with
  | 0 => .object "WingTrams$City"
  | 1 => .object "WingTrams$Night"
  | 2 => .object "WingTrams$Row"
  | 3 => .object "WingTrams$Row"
  | 4 => .object "WingTrams$Row"
  | _ => .object "WingTrams$Row"
theorem nmX5 : ∀ a, a < 6 → ∀ b, b < 6 → a ≠ b → (TX5 a).2.1 ≠ (TX5 b).2.1 := by decide +kernel
theorem tyX5_ok : ∀ k, k < 6 → parseFieldDescriptor (TX5 k).2.2.1 = some (tyX5 k) := by decide +kernel
def RX6 : String := "WingTrams$Row"
def TX6 : u_T := fun k => match k with
  | _ => ("WingTrams$Row", "cells", "[I", true)
def tyX6 : Nat → FieldType := fun k => match k with
  | _ => .array .int
theorem nmX6 : ∀ a, a < 1 → ∀ b, b < 1 → a ≠ b → (TX6 a).2.1 ≠ (TX6 b).2.1 := by decide +kernel
theorem tyX6_ok : ∀ k, k < 1 → parseFieldDescriptor (TX6 k).2.2.1 = some (tyX6 k) := by decide +kernel
def RX7 : String := "WingTrams$Rules"
def TX7 : u_T := fun k => match k with
  | 0 => ("WingTrams$Rules", "count", "I", false)
  | 1 => ("WingTrams$Rules", "steps", "I", false)
  | 2 => ("WingTrams$Rules", "code", "LWingTrams$Row;", true)
  | 3 => ("WingTrams$Rules", "ends", "LWingTrams$Row;", true)
  | _ => ("WingTrams$Rules", "stack", "LWingTrams$Row;", true)
def tyX7 : Nat → FieldType := fun k => match k with
  | 0 => .int
  | 1 => .int
  | 2 => .object "WingTrams$Row"
  | 3 => .object "WingTrams$Row"
  | _ => .object "WingTrams$Row"
theorem nmX7 : ∀ a, a < 5 → ∀ b, b < 5 → a ≠ b → (TX7 a).2.1 ≠ (TX7 b).2.1 := by decide +kernel
theorem tyX7_ok : ∀ k, k < 5 → parseFieldDescriptor (TX7 k).2.2.1 = some (tyX7 k) := by decide +kernel
def RX8 : String := "WingTrams$Sky"
def TX8 : u_T := fun k => match k with
  | 0 => ("WingTrams$Sky", "rule", "I", false)
  | 1 => ("WingTrams$Sky", "moon", "I", false)
  | 2 => ("WingTrams$Sky", "wet", "Z", false)
  | 3 => ("WingTrams$Sky", "nests", "I", false)
  | 4 => ("WingTrams$Sky", "grain", "LWingTrams$Row;", true)
  | _ => ("WingTrams$Sky", "start", "LWingTrams$Row;", true)
def tyX8 : Nat → FieldType := fun k => match k with
  | 0 => .int
  | 1 => .int
  | 2 => .boolean
  | 3 => .int
  | 4 => .object "WingTrams$Row"
  | _ => .object "WingTrams$Row"
theorem nmX8 : ∀ a, a < 6 → ∀ b, b < 6 → a ≠ b → (TX8 a).2.1 ≠ (TX8 b).2.1 := by decide +kernel
theorem tyX8_ok : ∀ k, k < 6 → parseFieldDescriptor (TX8 k).2.2.1 = some (tyX8 k) := by decide +kernel
def RX9 : String := "WingTrams$State"
def TX9 : u_T := fun k => match k with
  | 0 => ("WingTrams$State", "sky", "LWingTrams$Sky;", true)
  | 1 => ("WingTrams$State", "acts", "LWingTrams$Log;", true)
  | _ => ("WingTrams$State", "seen", "LWingTrams$Log;", true)
def tyX9 : Nat → FieldType := fun k => match k with
  | 0 => .object "WingTrams$Sky"
  | 1 => .object "WingTrams$Log"
  | _ => .object "WingTrams$Log"
theorem nmX9 : ∀ a, a < 3 → ∀ b, b < 3 → a ≠ b → (TX9 a).2.1 ≠ (TX9 b).2.1 := by decide +kernel
theorem tyX9_ok : ∀ k, k < 3 → parseFieldDescriptor (TX9 k).2.2.1 = some (tyX9 k) := by decide +kernel
def RX10 : String := "WingTrams$Tokens"
def TX10 : u_T := fun k => match k with
  | 0 => ("WingTrams$Tokens", "codes", "LWingTrams$Row;", true)
  | 1 => ("WingTrams$Tokens", "places", "LWingTrams$Row;", true)
  | 2 => ("WingTrams$Tokens", "numbers", "LWingTrams$Row;", true)
  | _ => ("WingTrams$Tokens", "count", "I", false)
def tyX10 : Nat → FieldType := fun k => match k with
  | 0 => .object "WingTrams$Row"
  | 1 => .object "WingTrams$Row"
  | 2 => .object "WingTrams$Row"
  | _ => .int
theorem nmX10 : ∀ a, a < 4 → ∀ b, b < 4 → a ≠ b → (TX10 a).2.1 ≠ (TX10 b).2.1 := by decide +kernel
theorem tyX10_ok : ∀ k, k < 4 → parseFieldDescriptor (TX10 k).2.2.1 = some (tyX10 k) := by decide +kernel
def RX11 : String := "WingTrams"
def TX11 : u_T := fun k => match k with
  | 0 => ("WingTrams", "tape", "LWingTrams$Row;", true)
  | 1 => ("WingTrams", "tapeLength", "I", false)
  | 2 => ("WingTrams", "faultPlace", "I", false)
  | 3 => ("WingTrams", "refused", "LWingTrams$Row;", true)
  | 4 => ("WingTrams", "city", "LWingTrams$City;", true)
  | 5 => ("WingTrams", "draft", "LWingTrams$City;", true)
  | 6 => ("WingTrams", "tokens", "LWingTrams$Tokens;", true)
  | 7 => ("WingTrams", "reader", "LWingTrams$Reader;", true)
  | 8 => ("WingTrams", "now", "LWingTrams$State;", true)
  | 9 => ("WingTrams", "picture", "LWingTrams$State;", true)
  | 10 => ("WingTrams", "hasPicture", "Z", false)
  | 11 => ("WingTrams", "trial", "LWingTrams$Sky;", true)
  | 12 => ("WingTrams", "night", "LWingTrams$Night;", true)
  | 13 => ("WingTrams", "rides", "LWingTrams$Rides;", true)
  | 14 => ("WingTrams", "lights", "LWingTrams$Beams;", true)
  | 15 => ("WingTrams", "lured", "LWingTrams$Row;", true)
  | 16 => ("WingTrams", "luring", "LWingTrams$Row;", true)
  | 17 => ("WingTrams", "hasLured", "Z", false)
  | _ => ("WingTrams", "seenBy", "LWingTrams$Row;", true)
def tyX11 : Nat → FieldType := fun k => match k with
  | 0 => .object "WingTrams$Row"
  | 1 => .int
  | 2 => .int
  | 3 => .object "WingTrams$Row"
  | 4 => .object "WingTrams$City"
  | 5 => .object "WingTrams$City"
  | 6 => .object "WingTrams$Tokens"
  | 7 => .object "WingTrams$Reader"
  | 8 => .object "WingTrams$State"
  | 9 => .object "WingTrams$State"
  | 10 => .boolean
  | 11 => .object "WingTrams$Sky"
  | 12 => .object "WingTrams$Night"
  | 13 => .object "WingTrams$Rides"
  | 14 => .object "WingTrams$Beams"
  | 15 => .object "WingTrams$Row"
  | 16 => .object "WingTrams$Row"
  | 17 => .boolean
  | _ => .object "WingTrams$Row"
theorem nmX11 : ∀ a, a < 19 → ∀ b, b < 19 → a ≠ b → (TX11 a).2.1 ≠ (TX11 b).2.1 := by decide +kernel
theorem tyX11_ok : ∀ k, k < 19 → parseFieldDescriptor (TX11 k).2.2.1 = some (tyX11 k) := by decide +kernel
def RX12 : String := "WingTramsModel"
def TX12 : u_T := fun k => match k with
  | 0 => ("WingTramsModel", "thrown", "I", false)
  | 1 => ("WingTramsModel", "roofs", "I", false)
  | 2 => ("WingTramsModel", "flights", "I", false)
  | 3 => ("WingTramsModel", "owls", "I", false)
  | 4 => ("WingTramsModel", "riders", "I", false)
  | 5 => ("WingTramsModel", "rules", "I", false)
  | 6 => ("WingTramsModel", "dawn", "I", false)
  | 7 => ("WingTramsModel", "flight", "[I", true)
  | 8 => ("WingTramsModel", "kind", "[I", true)
  | 9 => ("WingTramsModel", "wayLong", "[I", true)
  | 10 => ("WingTramsModel", "way", "[I", true)
  | 11 => ("WingTramsModel", "rider", "[I", true)
  | 12 => ("WingTramsModel", "ruleAt", "[I", true)
  | 13 => ("WingTramsModel", "code", "[I", true)
  | 14 => ("WingTramsModel", "tape", "[I", true)
  | 15 => ("WingTramsModel", "taped", "I", false)
  | 16 => ("WingTramsModel", "faultKind", "I", false)
  | 17 => ("WingTramsModel", "faultPlace", "I", false)
  | 18 => ("WingTramsModel", "refused", "[I", true)
  | 19 => ("WingTramsModel", "long1", "I", false)
  | 20 => ("WingTramsModel", "next", "I", false)
  | 21 => ("WingTramsModel", "sort", "I", false)
  | 22 => ("WingTramsModel", "place", "I", false)
  | 23 => ("WingTramsModel", "long0", "I", false)
  | 24 => ("WingTramsModel", "value", "I", false)
  | 25 => ("WingTramsModel", "sign", "I", false)
  | 26 => ("WingTramsModel", "word", "J", false)
  | 27 => ("WingTramsModel", "newRoofs", "I", false)
  | 28 => ("WingTramsModel", "newFlights", "I", false)
  | 29 => ("WingTramsModel", "newOwls", "I", false)
  | 30 => ("WingTramsModel", "newRiders", "I", false)
  | 31 => ("WingTramsModel", "newRules", "I", false)
  | 32 => ("WingTramsModel", "newDawn", "I", false)
  | 33 => ("WingTramsModel", "top", "I", false)
  | 34 => ("WingTramsModel", "waiting", "I", false)
  | 35 => ("WingTramsModel", "depth", "I", false)
  | 36 => ("WingTramsModel", "newGrain", "[I", true)
  | 37 => ("WingTramsModel", "newFlight", "[I", true)
  | 38 => ("WingTramsModel", "newKind", "[I", true)
  | 39 => ("WingTramsModel", "newMinute", "[I", true)
  | 40 => ("WingTramsModel", "newLong", "[I", true)
  | 41 => ("WingTramsModel", "newWay", "[I", true)
  | 42 => ("WingTramsModel", "newRider", "[I", true)
  | 43 => ("WingTramsModel", "newRuleAt", "[I", true)
  | 44 => ("WingTramsModel", "readCode", "[I", true)
  | 45 => ("WingTramsModel", "waits", "[I", true)
  | 46 => ("WingTramsModel", "tested", "[Z", true)
  | 47 => ("WingTramsModel", "now", "[I", true)
  | 48 => ("WingTramsModel", "then", "[I", true)
  | 49 => ("WingTramsModel", "act", "[I", true)
  | 50 => ("WingTramsModel", "acts", "I", false)
  | 51 => ("WingTramsModel", "far", "[I", true)
  | 52 => ("WingTramsModel", "told", "[I", true)
  | 53 => ("WingTramsModel", "pile", "[I", true)
  | 54 => ("WingTramsModel", "comes", "[I", true)
  | 55 => ("WingTramsModel", "leaves", "[I", true)
  | 56 => ("WingTramsModel", "mice", "[I", true)
  | 57 => ("WingTramsModel", "caught", "[I", true)
  | 58 => ("WingTramsModel", "at", "[I", true)
  | 59 => ("WingTramsModel", "in", "[I", true)
  | 60 => ("WingTramsModel", "soon", "[I", true)
  | 61 => ("WingTramsModel", "soonThen", "[I", true)
  | 62 => ("WingTramsModel", "soonBy", "[I", true)
  | 63 => ("WingTramsModel", "row", "[I", true)
  | 64 => ("WingTramsModel", "tried", "[I", true)
  | 65 => ("WingTramsModel", "hasRow", "Z", false)
  | 66 => ("WingTramsModel", "hung", "[I", true)
  | 67 => ("WingTramsModel", "seenMany", "I", false)
  | 68 => ("WingTramsModel", "seen", "[I", true)
  | 69 => ("WingTramsModel", "often", "[I", true)
  | 70 => ("WingTramsModel", "hasImage", "Z", false)
  | 71 => ("WingTramsModel", "imageActs", "I", false)
  | 72 => ("WingTramsModel", "imageSeen", "I", false)
  | 73 => ("WingTramsModel", "imageNow", "[I", true)
  | 74 => ("WingTramsModel", "imageAct", "[I", true)
  | _ => ("WingTramsModel", "imageSees", "[I", true)
def tyX12 : Nat → FieldType := fun k => match k with
  | 0 => .int
  | 1 => .int
  | 2 => .int
  | 3 => .int
  | 4 => .int
  | 5 => .int
  | 6 => .int
  | 7 => .array .int
  | 8 => .array .int
  | 9 => .array .int
  | 10 => .array .int
  | 11 => .array .int
  | 12 => .array .int
  | 13 => .array .int
  | 14 => .array .int
  | 15 => .int
  | 16 => .int
  | 17 => .int
  | 18 => .array .int
  | 19 => .int
  | 20 => .int
  | 21 => .int
  | 22 => .int
  | 23 => .int
  | 24 => .int
  | 25 => .int
  | 26 => .long
  | 27 => .int
  | 28 => .int
  | 29 => .int
  | 30 => .int
  | 31 => .int
  | 32 => .int
  | 33 => .int
  | 34 => .int
  | 35 => .int
  | 36 => .array .int
  | 37 => .array .int
  | 38 => .array .int
  | 39 => .array .int
  | 40 => .array .int
  | 41 => .array .int
  | 42 => .array .int
  | 43 => .array .int
  | 44 => .array .int
  | 45 => .array .int
  | 46 => .array .boolean
  | 47 => .array .int
  | 48 => .array .int
  | 49 => .array .int
  | 50 => .int
  | 51 => .array .int
  | 52 => .array .int
  | 53 => .array .int
  | 54 => .array .int
  | 55 => .array .int
  | 56 => .array .int
  | 57 => .array .int
  | 58 => .array .int
  | 59 => .array .int
  | 60 => .array .int
  | 61 => .array .int
  | 62 => .array .int
  | 63 => .array .int
  | 64 => .array .int
  | 65 => .boolean
  | 66 => .array .int
  | 67 => .int
  | 68 => .array .int
  | 69 => .array .int
  | 70 => .boolean
  | 71 => .int
  | 72 => .int
  | 73 => .array .int
  | 74 => .array .int
  | _ => .array .int
theorem nmX12 : ∀ a, a < 76 → ∀ b, b < 76 → a ≠ b → (TX12 a).2.1 ≠ (TX12 b).2.1 := by decide +kernel
theorem tyX12_ok : ∀ k, k < 76 → parseFieldDescriptor (TX12 k).2.2.1 = some (tyX12 k) := by decide +kernel
abbrev vwCl : List vw_C := [(RX0, TX0, 5), (RX1, TX1, 16), (RX2, TX2, 5), (RX3, TX3, 11), (RX4, TX4, 6), (RX5, TX5, 6), (RX6, TX6, 1), (RX7, TX7, 5), (RX8, TX8, 6), (RX9, TX9, 3), (RX10, TX10, 4), (RX11, TX11, 19), (RX12, TX12, 76)]
def vwTy : List (Nat → FieldType) := [tyX0, tyX1, tyX2, tyX3, tyX4, tyX5, tyX6, tyX7, tyX8, tyX9, tyX10, tyX11, tyX12]
/-- the words that a method hands on: those that the tables alone decide -/
def TBg : List Cond := lw_tbl.filter goodWord
theorem tgm {w : Cond} (h : w ∈ tables_1) (g : goodWord w = true) : w ∈ TBg := List.mem_filter.mpr ⟨List.mem_append_right _ h, g⟩
theorem tg1 {w : Cond} (i : Nat) (h : tables_1_1[i]? = some w) (g : goodWord w = true) : w ∈ TBg := tgm (List.mem_append_left _ (List.mem_of_getElem? h)) g
theorem tg2 {w : Cond} (i : Nat) (h : tables_1_2[i]? = some w) (g : goodWord w = true) : w ∈ TBg := tgm (List.mem_append_right _ (List.mem_append_left _ (List.mem_of_getElem? h))) g
theorem tg3 {w : Cond} (i : Nat) (h : tables_1_3[i]? = some w) (g : goodWord w = true) : w ∈ TBg := tgm (List.mem_append_right _ (List.mem_append_right _ (List.mem_append_left _ (List.mem_of_getElem? h)))) g
theorem tg4 {w : Cond} (i : Nat) (h : tables_1_4[i]? = some w) (g : goodWord w = true) : w ∈ TBg := tgm (List.mem_append_right _ (List.mem_append_right _ (List.mem_append_right _ (List.mem_append_left _ (List.mem_of_getElem? h))))) g
theorem tg5 {w : Cond} (i : Nat) (h : tables_1_5[i]? = some w) (g : goodWord w = true) : w ∈ TBg := tgm (List.mem_append_right _ (List.mem_append_right _ (List.mem_append_right _ (List.mem_append_right _ (List.mem_append_left _ (List.mem_of_getElem? h)))))) g
theorem tg6 {w : Cond} (i : Nat) (h : tables_1_6[i]? = some w) (g : goodWord w = true) : w ∈ TBg := tgm (List.mem_append_right _ (List.mem_append_right _ (List.mem_append_right _ (List.mem_append_right _ (List.mem_append_right _ (List.mem_append_left _ (List.mem_of_getElem? h))))))) g
theorem tg7 {w : Cond} (i : Nat) (h : tables_1_7[i]? = some w) (g : goodWord w = true) : w ∈ TBg := tgm (List.mem_append_right _ (List.mem_append_right _ (List.mem_append_right _ (List.mem_append_right _ (List.mem_append_right _ (List.mem_append_right _ (List.mem_append_left _ (List.mem_of_getElem? h)))))))) g
theorem tg8 {w : Cond} (i : Nat) (h : tables_1_8[i]? = some w) (g : goodWord w = true) : w ∈ TBg := tgm (List.mem_append_right _ (List.mem_append_right _ (List.mem_append_right _ (List.mem_append_right _ (List.mem_append_right _ (List.mem_append_right _ (List.mem_append_right _ (List.mem_append_left _ (List.mem_of_getElem? h))))))))) g
theorem tg9 {w : Cond} (i : Nat) (h : tables_1_9[i]? = some w) (g : goodWord w = true) : w ∈ TBg := tgm (List.mem_append_right _ (List.mem_append_right _ (List.mem_append_right _ (List.mem_append_right _ (List.mem_append_right _ (List.mem_append_right _ (List.mem_append_right _ (List.mem_append_right _ (List.mem_of_getElem? h))))))))) g
theorem tgs {w : Cond} (i : Nat) (h : (k2_sels lw_privs)[i]? = some w) (g : goodWord w = true) : w ∈ TBg := List.mem_filter.mpr ⟨List.mem_append_left _ (List.mem_of_getElem? h), g⟩
def okC (q : vw_C) (t : Nat → FieldType) : Prop := (∀ w ∈ u_ws q.1 q.2.1 q.2.2, w ∈ TBg) ∧ (∀ k, k < q.2.2 → parseFieldDescriptor (q.2.1 k).2.2.1 = some (t k)) ∧ (∀ a, a < q.2.2 → ∀ b, b < q.2.2 → a ≠ b → (q.2.1 a).2.1 ≠ (q.2.1 b).2.1) ∧ (∀ k, k < q.2.2 → (q.2.1 k).1 = q.1) ∧ Cond.instantiable q.1 q.2.2 ∈ TBg ∧ Cond.initialized q.1 ∈ TBg
theorem okC0 : okC (RX0, TX0, 5) tyX0 := by
  refine ⟨?_, tyX0_ok, nmX0, by decide +kernel, tg2 165 (by decide +kernel) rfl, tg1 12 (by decide +kernel) rfl⟩
  show ∀ w ∈ [u_lay RX0 TX0 0, u_lay RX0 TX0 1, u_lay RX0 TX0 2, u_lay RX0 TX0 3, u_lay RX0 TX0 4], w ∈ TBg
  exact List.forall_mem_cons.mpr ⟨tg2 179 (by decide +kernel) rfl, List.forall_mem_cons.mpr ⟨tg2 181 (by decide +kernel) rfl, List.forall_mem_cons.mpr ⟨tg2 183 (by decide +kernel) rfl, List.forall_mem_cons.mpr ⟨tg2 185 (by decide +kernel) rfl, List.forall_mem_cons.mpr ⟨tg2 187 (by decide +kernel) rfl, fun _ h => absurd h List.not_mem_nil⟩⟩⟩⟩⟩
theorem okC1 : okC (RX1, TX1, 16) tyX1 := by
  refine ⟨?_, tyX1_ok, nmX1, by decide +kernel, tg1 46 (by decide +kernel) rfl, tg1 3 (by decide +kernel) rfl⟩
  show ∀ w ∈ [u_lay RX1 TX1 0, u_lay RX1 TX1 1, u_lay RX1 TX1 2, u_lay RX1 TX1 3, u_lay RX1 TX1 4, u_lay RX1 TX1 5, u_lay RX1 TX1 6, u_lay RX1 TX1 7, u_lay RX1 TX1 8, u_lay RX1 TX1 9, u_lay RX1 TX1 10, u_lay RX1 TX1 11, u_lay RX1 TX1 12, u_lay RX1 TX1 13, u_lay RX1 TX1 14, u_lay RX1 TX1 15], w ∈ TBg
  exact List.forall_mem_cons.mpr ⟨tg1 146 (by decide +kernel) rfl, List.forall_mem_cons.mpr ⟨tg1 148 (by decide +kernel) rfl, List.forall_mem_cons.mpr ⟨tg1 150 (by decide +kernel) rfl, List.forall_mem_cons.mpr ⟨tg1 152 (by decide +kernel) rfl, List.forall_mem_cons.mpr ⟨tg1 154 (by decide +kernel) rfl, List.forall_mem_cons.mpr ⟨tg1 156 (by decide +kernel) rfl, List.forall_mem_cons.mpr ⟨tg1 158 (by decide +kernel) rfl, List.forall_mem_cons.mpr ⟨tg1 160 (by decide +kernel) rfl, List.forall_mem_cons.mpr ⟨tg1 162 (by decide +kernel) rfl, List.forall_mem_cons.mpr ⟨tg1 164 (by decide +kernel) rfl, List.forall_mem_cons.mpr ⟨tg1 166 (by decide +kernel) rfl, List.forall_mem_cons.mpr ⟨tg1 168 (by decide +kernel) rfl, List.forall_mem_cons.mpr ⟨tg1 170 (by decide +kernel) rfl, List.forall_mem_cons.mpr ⟨tg1 172 (by decide +kernel) rfl, List.forall_mem_cons.mpr ⟨tg1 174 (by decide +kernel) rfl, List.forall_mem_cons.mpr ⟨tg1 176 (by decide +kernel) rfl, fun _ h => absurd h List.not_mem_nil⟩⟩⟩⟩⟩⟩⟩⟩⟩⟩⟩⟩⟩⟩⟩⟩
theorem okC2 : okC (RX2, TX2, 5) tyX2 := by
  refine ⟨?_, tyX2_ok, nmX2, by decide +kernel, tg2 40 (by decide +kernel) rfl, tg1 9 (by decide +kernel) rfl⟩
  show ∀ w ∈ [u_lay RX2 TX2 0, u_lay RX2 TX2 1, u_lay RX2 TX2 2, u_lay RX2 TX2 3, u_lay RX2 TX2 4], w ∈ TBg
  exact List.forall_mem_cons.mpr ⟨tg2 60 (by decide +kernel) rfl, List.forall_mem_cons.mpr ⟨tg2 62 (by decide +kernel) rfl, List.forall_mem_cons.mpr ⟨tg2 64 (by decide +kernel) rfl, List.forall_mem_cons.mpr ⟨tg2 66 (by decide +kernel) rfl, List.forall_mem_cons.mpr ⟨tg2 68 (by decide +kernel) rfl, fun _ h => absurd h List.not_mem_nil⟩⟩⟩⟩⟩
theorem okC3 : okC (RX3, TX3, 11) tyX3 := by
  refine ⟨?_, tyX3_ok, nmX3, by decide +kernel, tg2 87 (by decide +kernel) rfl, tg1 10 (by decide +kernel) rfl⟩
  show ∀ w ∈ [u_lay RX3 TX3 0, u_lay RX3 TX3 1, u_lay RX3 TX3 2, u_lay RX3 TX3 3, u_lay RX3 TX3 4, u_lay RX3 TX3 5, u_lay RX3 TX3 6, u_lay RX3 TX3 7, u_lay RX3 TX3 8, u_lay RX3 TX3 9, u_lay RX3 TX3 10], w ∈ TBg
  exact List.forall_mem_cons.mpr ⟨tg2 114 (by decide +kernel) rfl, List.forall_mem_cons.mpr ⟨tg2 116 (by decide +kernel) rfl, List.forall_mem_cons.mpr ⟨tg2 118 (by decide +kernel) rfl, List.forall_mem_cons.mpr ⟨tg2 120 (by decide +kernel) rfl, List.forall_mem_cons.mpr ⟨tg2 122 (by decide +kernel) rfl, List.forall_mem_cons.mpr ⟨tg2 124 (by decide +kernel) rfl, List.forall_mem_cons.mpr ⟨tg2 126 (by decide +kernel) rfl, List.forall_mem_cons.mpr ⟨tg2 128 (by decide +kernel) rfl, List.forall_mem_cons.mpr ⟨tg2 130 (by decide +kernel) rfl, List.forall_mem_cons.mpr ⟨tg2 132 (by decide +kernel) rfl, List.forall_mem_cons.mpr ⟨tg2 134 (by decide +kernel) rfl, fun _ h => absurd h List.not_mem_nil⟩⟩⟩⟩⟩⟩⟩⟩⟩⟩⟩
theorem okC4 : okC (RX4, TX4, 6) tyX4 := by
  refine ⟨?_, tyX4_ok, nmX4, by decide +kernel, tg1 204 (by decide +kernel) rfl, tg1 6 (by decide +kernel) rfl⟩
  show ∀ w ∈ [u_lay RX4 TX4 0, u_lay RX4 TX4 1, u_lay RX4 TX4 2, u_lay RX4 TX4 3, u_lay RX4 TX4 4, u_lay RX4 TX4 5], w ∈ TBg
  exact List.forall_mem_cons.mpr ⟨tg1 216 (by decide +kernel) rfl, List.forall_mem_cons.mpr ⟨tg1 218 (by decide +kernel) rfl, List.forall_mem_cons.mpr ⟨tg1 220 (by decide +kernel) rfl, List.forall_mem_cons.mpr ⟨tg1 222 (by decide +kernel) rfl, List.forall_mem_cons.mpr ⟨tg1 224 (by decide +kernel) rfl, List.forall_mem_cons.mpr ⟨tg1 226 (by decide +kernel) rfl, fun _ h => absurd h List.not_mem_nil⟩⟩⟩⟩⟩⟩
theorem okC5 : okC (RX5, TX5, 6) tyX5 := by
  refine ⟨?_, tyX5_ok, nmX5, by decide +kernel, tg2 138 (by decide +kernel) rfl, tg1 11 (by decide +kernel) rfl⟩
  show ∀ w ∈ [u_lay RX5 TX5 0, u_lay RX5 TX5 1, u_lay RX5 TX5 2, u_lay RX5 TX5 3, u_lay RX5 TX5 4, u_lay RX5 TX5 5], w ∈ TBg
  exact List.forall_mem_cons.mpr ⟨tg2 151 (by decide +kernel) rfl, List.forall_mem_cons.mpr ⟨tg2 153 (by decide +kernel) rfl, List.forall_mem_cons.mpr ⟨tg2 155 (by decide +kernel) rfl, List.forall_mem_cons.mpr ⟨tg2 157 (by decide +kernel) rfl, List.forall_mem_cons.mpr ⟨tg2 159 (by decide +kernel) rfl, List.forall_mem_cons.mpr ⟨tg2 161 (by decide +kernel) rfl, fun _ h => absurd h List.not_mem_nil⟩⟩⟩⟩⟩⟩
theorem okC6 : okC (RX6, TX6, 1) tyX6 := by
  refine ⟨?_, tyX6_ok, nmX6, by decide +kernel, tg1 35 (by decide +kernel) rfl, tg1 2 (by decide +kernel) rfl⟩
  show ∀ w ∈ [u_lay RX6 TX6 0], w ∈ TBg
  exact List.forall_mem_cons.mpr ⟨tg1 41 (by decide +kernel) rfl, fun _ h => absurd h List.not_mem_nil⟩
theorem okC7 : okC (RX7, TX7, 5) tyX7 := by
  refine ⟨?_, tyX7_ok, nmX7, by decide +kernel, tg1 54 (by decide +kernel) rfl, tg1 4 (by decide +kernel) rfl⟩
  show ∀ w ∈ [u_lay RX7 TX7 0, u_lay RX7 TX7 1, u_lay RX7 TX7 2, u_lay RX7 TX7 3, u_lay RX7 TX7 4], w ∈ TBg
  exact List.forall_mem_cons.mpr ⟨tg1 69 (by decide +kernel) rfl, List.forall_mem_cons.mpr ⟨tg1 71 (by decide +kernel) rfl, List.forall_mem_cons.mpr ⟨tg1 73 (by decide +kernel) rfl, List.forall_mem_cons.mpr ⟨tg1 75 (by decide +kernel) rfl, List.forall_mem_cons.mpr ⟨tg1 77 (by decide +kernel) rfl, fun _ h => absurd h List.not_mem_nil⟩⟩⟩⟩⟩
theorem okC8 : okC (RX8, TX8, 6) tyX8 := by
  refine ⟨?_, tyX8_ok, nmX8, by decide +kernel, tg1 236 (by decide +kernel) rfl, tg1 8 (by decide +kernel) rfl⟩
  show ∀ w ∈ [u_lay RX8 TX8 0, u_lay RX8 TX8 1, u_lay RX8 TX8 2, u_lay RX8 TX8 3, u_lay RX8 TX8 4, u_lay RX8 TX8 5], w ∈ TBg
  exact List.forall_mem_cons.mpr ⟨tg2 26 (by decide +kernel) rfl, List.forall_mem_cons.mpr ⟨tg2 28 (by decide +kernel) rfl, List.forall_mem_cons.mpr ⟨tg2 30 (by decide +kernel) rfl, List.forall_mem_cons.mpr ⟨tg2 32 (by decide +kernel) rfl, List.forall_mem_cons.mpr ⟨tg2 34 (by decide +kernel) rfl, List.forall_mem_cons.mpr ⟨tg2 36 (by decide +kernel) rfl, fun _ h => absurd h List.not_mem_nil⟩⟩⟩⟩⟩⟩
theorem okC9 : okC (RX9, TX9, 3) tyX9 := by
  refine ⟨?_, tyX9_ok, nmX9, by decide +kernel, tg1 230 (by decide +kernel) rfl, tg1 7 (by decide +kernel) rfl⟩
  show ∀ w ∈ [u_lay RX9 TX9 0, u_lay RX9 TX9 1, u_lay RX9 TX9 2], w ∈ TBg
  exact List.forall_mem_cons.mpr ⟨tg2 77 (by decide +kernel) rfl, List.forall_mem_cons.mpr ⟨tg2 79 (by decide +kernel) rfl, List.forall_mem_cons.mpr ⟨tg2 81 (by decide +kernel) rfl, fun _ h => absurd h List.not_mem_nil⟩⟩⟩
theorem okC10 : okC (RX10, TX10, 4) tyX10 := by
  refine ⟨?_, tyX10_ok, nmX10, by decide +kernel, tg1 180 (by decide +kernel) rfl, tg1 5 (by decide +kernel) rfl⟩
  show ∀ w ∈ [u_lay RX10 TX10 0, u_lay RX10 TX10 1, u_lay RX10 TX10 2, u_lay RX10 TX10 3], w ∈ TBg
  exact List.forall_mem_cons.mpr ⟨tg1 194 (by decide +kernel) rfl, List.forall_mem_cons.mpr ⟨tg1 196 (by decide +kernel) rfl, List.forall_mem_cons.mpr ⟨tg1 198 (by decide +kernel) rfl, List.forall_mem_cons.mpr ⟨tg1 200 (by decide +kernel) rfl, fun _ h => absurd h List.not_mem_nil⟩⟩⟩⟩
theorem okC11 : okC (RX11, TX11, 19) tyX11 := by
  refine ⟨?_, tyX11_ok, nmX11, by decide +kernel, tg1 27 (by decide +kernel) rfl, tg1 1 (by decide +kernel) rfl⟩
  show ∀ w ∈ [u_lay RX11 TX11 0, u_lay RX11 TX11 1, u_lay RX11 TX11 2, u_lay RX11 TX11 3, u_lay RX11 TX11 4, u_lay RX11 TX11 5, u_lay RX11 TX11 6, u_lay RX11 TX11 7, u_lay RX11 TX11 8, u_lay RX11 TX11 9, u_lay RX11 TX11 10, u_lay RX11 TX11 11, u_lay RX11 TX11 12, u_lay RX11 TX11 13, u_lay RX11 TX11 14, u_lay RX11 TX11 15, u_lay RX11 TX11 16, u_lay RX11 TX11 17, u_lay RX11 TX11 18], w ∈ TBg
  exact List.forall_mem_cons.mpr ⟨tg2 209 (by decide +kernel) rfl, List.forall_mem_cons.mpr ⟨tg2 211 (by decide +kernel) rfl, List.forall_mem_cons.mpr ⟨tg2 213 (by decide +kernel) rfl, List.forall_mem_cons.mpr ⟨tg2 215 (by decide +kernel) rfl, List.forall_mem_cons.mpr ⟨tg2 217 (by decide +kernel) rfl, List.forall_mem_cons.mpr ⟨tg2 219 (by decide +kernel) rfl, List.forall_mem_cons.mpr ⟨tg2 221 (by decide +kernel) rfl, List.forall_mem_cons.mpr ⟨tg2 223 (by decide +kernel) rfl, List.forall_mem_cons.mpr ⟨tg2 225 (by decide +kernel) rfl, List.forall_mem_cons.mpr ⟨tg2 227 (by decide +kernel) rfl, List.forall_mem_cons.mpr ⟨tg2 229 (by decide +kernel) rfl, List.forall_mem_cons.mpr ⟨tg2 231 (by decide +kernel) rfl, List.forall_mem_cons.mpr ⟨tg2 233 (by decide +kernel) rfl, List.forall_mem_cons.mpr ⟨tg2 235 (by decide +kernel) rfl, List.forall_mem_cons.mpr ⟨tg2 237 (by decide +kernel) rfl, List.forall_mem_cons.mpr ⟨tg2 239 (by decide +kernel) rfl, List.forall_mem_cons.mpr ⟨tg3 1 (by decide +kernel) rfl, List.forall_mem_cons.mpr ⟨tg3 3 (by decide +kernel) rfl, List.forall_mem_cons.mpr ⟨tg3 5 (by decide +kernel) rfl, fun _ h => absurd h List.not_mem_nil⟩⟩⟩⟩⟩⟩⟩⟩⟩⟩⟩⟩⟩⟩⟩⟩⟩⟩⟩
theorem okC12 : okC (RX12, TX12, 76) tyX12 := by
  refine ⟨?_, tyX12_ok, nmX12, by decide +kernel, tg6 175 (by decide +kernel) rfl, tg1 13 (by decide +kernel) rfl⟩
  show ∀ w ∈ [u_lay RX12 TX12 0, u_lay RX12 TX12 1, u_lay RX12 TX12 2, u_lay RX12 TX12 3, u_lay RX12 TX12 4, u_lay RX12 TX12 5, u_lay RX12 TX12 6, u_lay RX12 TX12 7, u_lay RX12 TX12 8, u_lay RX12 TX12 9, u_lay RX12 TX12 10, u_lay RX12 TX12 11, u_lay RX12 TX12 12, u_lay RX12 TX12 13, u_lay RX12 TX12 14, u_lay RX12 TX12 15, u_lay RX12 TX12 16, u_lay RX12 TX12 17, u_lay RX12 TX12 18, u_lay RX12 TX12 19, u_lay RX12 TX12 20, u_lay RX12 TX12 21, u_lay RX12 TX12 22, u_lay RX12 TX12 23, u_lay RX12 TX12 24, u_lay RX12 TX12 25, u_lay RX12 TX12 26, u_lay RX12 TX12 27, u_lay RX12 TX12 28, u_lay RX12 TX12 29, u_lay RX12 TX12 30, u_lay RX12 TX12 31, u_lay RX12 TX12 32, u_lay RX12 TX12 33, u_lay RX12 TX12 34, u_lay RX12 TX12 35, u_lay RX12 TX12 36, u_lay RX12 TX12 37, u_lay RX12 TX12 38, u_lay RX12 TX12 39, u_lay RX12 TX12 40, u_lay RX12 TX12 41, u_lay RX12 TX12 42, u_lay RX12 TX12 43, u_lay RX12 TX12 44, u_lay RX12 TX12 45, u_lay RX12 TX12 46, u_lay RX12 TX12 47, u_lay RX12 TX12 48, u_lay RX12 TX12 49, u_lay RX12 TX12 50, u_lay RX12 TX12 51, u_lay RX12 TX12 52, u_lay RX12 TX12 53, u_lay RX12 TX12 54, u_lay RX12 TX12 55, u_lay RX12 TX12 56, u_lay RX12 TX12 57, u_lay RX12 TX12 58, u_lay RX12 TX12 59, u_lay RX12 TX12 60, u_lay RX12 TX12 61, u_lay RX12 TX12 62, u_lay RX12 TX12 63, u_lay RX12 TX12 64, u_lay RX12 TX12 65, u_lay RX12 TX12 66, u_lay RX12 TX12 67, u_lay RX12 TX12 68, u_lay RX12 TX12 69, u_lay RX12 TX12 70, u_lay RX12 TX12 71, u_lay RX12 TX12 72, u_lay RX12 TX12 73, u_lay RX12 TX12 74, u_lay RX12 TX12 75], w ∈ TBg
  exact List.forall_mem_cons.mpr ⟨tg7 16 (by decide +kernel) rfl, List.forall_mem_cons.mpr ⟨tg7 18 (by decide +kernel) rfl, List.forall_mem_cons.mpr ⟨tg7 20 (by decide +kernel) rfl, List.forall_mem_cons.mpr ⟨tg7 22 (by decide +kernel) rfl, List.forall_mem_cons.mpr ⟨tg7 24 (by decide +kernel) rfl, List.forall_mem_cons.mpr ⟨tg7 26 (by decide +kernel) rfl, List.forall_mem_cons.mpr ⟨tg7 28 (by decide +kernel) rfl, List.forall_mem_cons.mpr ⟨tg7 30 (by decide +kernel) rfl, List.forall_mem_cons.mpr ⟨tg7 32 (by decide +kernel) rfl, List.forall_mem_cons.mpr ⟨tg7 34 (by decide +kernel) rfl, List.forall_mem_cons.mpr ⟨tg7 36 (by decide +kernel) rfl, List.forall_mem_cons.mpr ⟨tg7 38 (by decide +kernel) rfl, List.forall_mem_cons.mpr ⟨tg7 40 (by decide +kernel) rfl, List.forall_mem_cons.mpr ⟨tg7 42 (by decide +kernel) rfl, List.forall_mem_cons.mpr ⟨tg7 44 (by decide +kernel) rfl, List.forall_mem_cons.mpr ⟨tg7 46 (by decide +kernel) rfl, List.forall_mem_cons.mpr ⟨tg7 48 (by decide +kernel) rfl, List.forall_mem_cons.mpr ⟨tg7 50 (by decide +kernel) rfl, List.forall_mem_cons.mpr ⟨tg7 52 (by decide +kernel) rfl, List.forall_mem_cons.mpr ⟨tg7 54 (by decide +kernel) rfl, List.forall_mem_cons.mpr ⟨tg7 56 (by decide +kernel) rfl, List.forall_mem_cons.mpr ⟨tg7 58 (by decide +kernel) rfl, List.forall_mem_cons.mpr ⟨tg7 60 (by decide +kernel) rfl, List.forall_mem_cons.mpr ⟨tg7 62 (by decide +kernel) rfl, List.forall_mem_cons.mpr ⟨tg7 64 (by decide +kernel) rfl, List.forall_mem_cons.mpr ⟨tg7 66 (by decide +kernel) rfl, List.forall_mem_cons.mpr ⟨tg7 68 (by decide +kernel) rfl, List.forall_mem_cons.mpr ⟨tg7 70 (by decide +kernel) rfl, List.forall_mem_cons.mpr ⟨tg7 72 (by decide +kernel) rfl, List.forall_mem_cons.mpr ⟨tg7 74 (by decide +kernel) rfl, List.forall_mem_cons.mpr ⟨tg7 76 (by decide +kernel) rfl, List.forall_mem_cons.mpr ⟨tg7 78 (by decide +kernel) rfl, List.forall_mem_cons.mpr ⟨tg7 80 (by decide +kernel) rfl, List.forall_mem_cons.mpr ⟨tg7 82 (by decide +kernel) rfl, List.forall_mem_cons.mpr ⟨tg7 84 (by decide +kernel) rfl, List.forall_mem_cons.mpr ⟨tg7 86 (by decide +kernel) rfl, List.forall_mem_cons.mpr ⟨tg7 88 (by decide +kernel) rfl, List.forall_mem_cons.mpr ⟨tg7 90 (by decide +kernel) rfl, List.forall_mem_cons.mpr ⟨tg7 92 (by decide +kernel) rfl, List.forall_mem_cons.mpr ⟨tg7 94 (by decide +kernel) rfl, List.forall_mem_cons.mpr ⟨tg7 96 (by decide +kernel) rfl, List.forall_mem_cons.mpr ⟨tg7 98 (by decide +kernel) rfl, List.forall_mem_cons.mpr ⟨tg7 100 (by decide +kernel) rfl, List.forall_mem_cons.mpr ⟨tg7 102 (by decide +kernel) rfl, List.forall_mem_cons.mpr ⟨tg7 104 (by decide +kernel) rfl, List.forall_mem_cons.mpr ⟨tg7 106 (by decide +kernel) rfl, List.forall_mem_cons.mpr ⟨tg7 108 (by decide +kernel) rfl, List.forall_mem_cons.mpr ⟨tg7 110 (by decide +kernel) rfl, List.forall_mem_cons.mpr ⟨tg7 112 (by decide +kernel) rfl, List.forall_mem_cons.mpr ⟨tg7 114 (by decide +kernel) rfl, List.forall_mem_cons.mpr ⟨tg7 116 (by decide +kernel) rfl, List.forall_mem_cons.mpr ⟨tg7 118 (by decide +kernel) rfl, List.forall_mem_cons.mpr ⟨tg7 120 (by decide +kernel) rfl, List.forall_mem_cons.mpr ⟨tg7 122 (by decide +kernel) rfl, List.forall_mem_cons.mpr ⟨tg7 124 (by decide +kernel) rfl, List.forall_mem_cons.mpr ⟨tg7 126 (by decide +kernel) rfl, List.forall_mem_cons.mpr ⟨tg7 128 (by decide +kernel) rfl, List.forall_mem_cons.mpr ⟨tg7 130 (by decide +kernel) rfl, List.forall_mem_cons.mpr ⟨tg7 132 (by decide +kernel) rfl, List.forall_mem_cons.mpr ⟨tg7 134 (by decide +kernel) rfl, List.forall_mem_cons.mpr ⟨tg7 136 (by decide +kernel) rfl, List.forall_mem_cons.mpr ⟨tg7 138 (by decide +kernel) rfl, List.forall_mem_cons.mpr ⟨tg7 140 (by decide +kernel) rfl, List.forall_mem_cons.mpr ⟨tg7 142 (by decide +kernel) rfl, List.forall_mem_cons.mpr ⟨tg7 144 (by decide +kernel) rfl, List.forall_mem_cons.mpr ⟨tg7 146 (by decide +kernel) rfl, List.forall_mem_cons.mpr ⟨tg7 148 (by decide +kernel) rfl, List.forall_mem_cons.mpr ⟨tg7 150 (by decide +kernel) rfl, List.forall_mem_cons.mpr ⟨tg7 152 (by decide +kernel) rfl, List.forall_mem_cons.mpr ⟨tg7 154 (by decide +kernel) rfl, List.forall_mem_cons.mpr ⟨tg7 156 (by decide +kernel) rfl, List.forall_mem_cons.mpr ⟨tg7 158 (by decide +kernel) rfl, List.forall_mem_cons.mpr ⟨tg7 160 (by decide +kernel) rfl, List.forall_mem_cons.mpr ⟨tg7 162 (by decide +kernel) rfl, List.forall_mem_cons.mpr ⟨tg7 164 (by decide +kernel) rfl, List.forall_mem_cons.mpr ⟨tg7 166 (by decide +kernel) rfl, fun _ h => absurd h List.not_mem_nil⟩⟩⟩⟩⟩⟩⟩⟩⟩⟩⟩⟩⟩⟩⟩⟩⟩⟩⟩⟩⟩⟩⟩⟩⟩⟩⟩⟩⟩⟩⟩⟩⟩⟩⟩⟩⟩⟩⟩⟩⟩⟩⟩⟩⟩⟩⟩⟩⟩⟩⟩⟩⟩⟩⟩⟩⟩⟩⟩⟩⟩⟩⟩⟩⟩⟩⟩⟩⟩⟩⟩⟩⟩⟩⟩⟩
/-- of a method: name, bytes, locals, what it returns, kind (0 virtual, 1 static, 2 constructor), parameters, cells and slots that it may make, whether it makes cells of the world -/
abbrev dM : Type := MethodName × ByteArray × Nat × Option FieldType × Nat × Nat × (Nat × Nat) × Bool
def okM (q : dM) : Prop := Cond.code q.1 q.2.1 q.2.2.1 q.2.2.2.1 ∈ TBg ∧ Cond.initialized q.1.cls ∈ TBg ∧ (q.2.2.2.2.1 = 0 → Cond.instanceMethod q.1 ∈ TBg ∧ Cond.selects q.1.cls q.1 q.1 ∈ TBg) ∧ (q.2.2.2.2.1 = 1 → Cond.static q.1 ∈ TBg) ∧ (q.2.2.2.2.1 = 2 → Cond.instanceMethod q.1 ∈ TBg ∧ q.1.name = "<init>" ∧ q.2.2.2.1 = none) ∧ (q.1.cls ≠ "java/lang/invoke/MethodHandle" ∧ q.1.cls ≠ "java/lang/invoke/VarHandle") ∧ (parseMethodDescriptor q.1.desc).map (fun d => d.parameters.length) = some q.2.2.2.2.2.1 ∧ q.2.2.1 ≤ 40
def m_0 : dM := (⟨"java/lang/Integer", "bitCount", "(I)I"⟩, prog_21_method_49_code, 1, some .int, 1, 1, (0, 0), false)
def m_1 : dM := (⟨"java/lang/Math", "abs", "(I)I"⟩, prog_22_method_59_code, 1, some .int, 1, 1, (0, 0), false)
def m_2 : dM := (⟨"java/lang/Math", "max", "(II)I"⟩, prog_22_method_65_code, 2, some .int, 1, 2, (0, 0), false)
def m_3 : dM := (⟨"java/lang/Math", "min", "(II)I"⟩, prog_22_method_69_code, 2, some .int, 1, 2, (0, 0), false)
def m_4 : dM := (⟨"WingTrams$Row", "<init>", "(I)V"⟩, prog_8_method_1_code, 2, none, 2, 1, (1, 1000), true)
def m_5 : dM := (⟨"WingTrams$Row", "at", "(I)I"⟩, prog_8_method_2_code, 2, some .int, 0, 1, (0, 0), false)
def m_6 : dM := (⟨"WingTrams$Row", "put", "(II)V"⟩, prog_8_method_3_code, 3, none, 0, 2, (0, 0), false)
def m_7 : dM := (⟨"WingTrams$Row", "fill", "(I)V"⟩, prog_8_method_4_code, 3, none, 0, 1, (0, 0), false)
def m_8 : dM := (⟨"WingTrams$Row", "copy", "(LWingTrams$Row;)V"⟩, prog_8_method_5_code, 3, none, 0, 1, (0, 0), false)
def m_9 : dM := (⟨"WingTrams$Log", "<init>", "(I)V"⟩, prog_4_method_1_code, 2, none, 2, 1, (6, 3010), true)
def m_10 : dM := (⟨"WingTrams$Log", "add", "(III)V"⟩, prog_4_method_2_code, 4, none, 0, 3, (0, 0), false)
def m_11 : dM := (⟨"WingTrams$Log", "dropFirst", "()V"⟩, prog_4_method_3_code, 2, none, 0, 0, (0, 0), false)
def m_12 : dM := (⟨"WingTrams$Log", "copy", "(LWingTrams$Log;)V"⟩, prog_4_method_4_code, 2, none, 0, 1, (0, 0), false)
def m_13 : dM := (⟨"WingTrams$Rules", "<init>", "()V"⟩, prog_9_method_1_code, 1, none, 2, 0, (6, 6000), true)
def m_14 : dM := (⟨"WingTrams$Rules", "clear", "()V"⟩, prog_9_method_2_code, 1, none, 0, 0, (0, 0), false)
def m_15 : dM := (⟨"WingTrams$Rules", "copy", "(LWingTrams$Rules;)V"⟩, prog_9_method_3_code, 2, none, 0, 1, (0, 0), false)
def m_16 : dM := (⟨"WingTrams$Rules", "emit", "(I)V"⟩, prog_9_method_4_code, 2, none, 0, 1, (0, 0), false)
def m_17 : dM := (⟨"WingTrams$Rules", "close", "()V"⟩, prog_9_method_5_code, 1, none, 0, 0, (0, 0), false)
def m_18 : dM := (⟨"WingTrams$Rules", "valueOf", "(ILWingTrams$Row;)I"⟩, prog_9_method_6_code, 7, some .int, 0, 2, (0, 0), false)
def m_19 : dM := (⟨"WingTrams$Rules", "joined", "(III)I"⟩, prog_9_method_7_code, 3, some .int, 1, 3, (0, 0), false)
def m_20 : dM := (⟨"WingTrams$Sky", "<init>", "()V"⟩, prog_10_method_1_code, 1, none, 2, 0, (4, 4000), true)
def m_21 : dM := (⟨"WingTrams$Sky", "begin", "(LWingTrams$City;)V"⟩, prog_10_method_2_code, 2, none, 0, 1, (0, 0), false)
def m_22 : dM := (⟨"WingTrams$Sky", "copy", "(LWingTrams$Sky;)V"⟩, prog_10_method_3_code, 2, none, 0, 1, (0, 0), false)
def m_23 : dM := (⟨"WingTrams$Sky", "nesting", "(I)Z"⟩, prog_10_method_4_code, 2, some .boolean, 0, 1, (0, 0), false)
def m_24 : dM := (⟨"WingTrams$City", "<init>", "()V"⟩, prog_3_method_1_code, 1, none, 2, 0, (27, 27000), true)
def m_25 : dM := (⟨"WingTrams$City", "clear", "()V"⟩, prog_3_method_2_code, 1, none, 0, 0, (0, 0), false)
def m_26 : dM := (⟨"WingTrams$City", "copy", "(LWingTrams$City;)V"⟩, prog_3_method_3_code, 2, none, 0, 1, (0, 0), false)
def m_27 : dM := (⟨"WingTrams$City", "addFlight", "(III)V"⟩, prog_3_method_4_code, 4, none, 0, 3, (0, 0), false)
def m_28 : dM := (⟨"WingTrams$City", "minutesBetween", "(II)I"⟩, prog_3_method_5_code, 4, some .int, 0, 2, (0, 0), false)
def m_29 : dM := (⟨"WingTrams$City", "neighboursOf", "(I)I"⟩, prog_3_method_6_code, 4, some .int, 0, 1, (0, 0), false)
def m_30 : dM := (⟨"WingTrams$City", "ridersOf", "(I)I"⟩, prog_3_method_7_code, 4, some .int, 0, 1, (0, 0), false)
def m_31 : dM := (⟨"WingTrams$City", "ridersWith", "(I)I"⟩, prog_3_method_8_code, 4, some .int, 0, 1, (0, 0), false)
def m_32 : dM := (⟨"WingTrams$State", "<init>", "()V"⟩, prog_11_method_1_code, 1, none, 2, 0, (19, 19000), true)
def m_33 : dM := (⟨"WingTrams$State", "begin", "(LWingTrams$City;)V"⟩, prog_11_method_2_code, 2, none, 0, 1, (0, 0), false)
def m_34 : dM := (⟨"WingTrams$State", "copy", "(LWingTrams$State;)V"⟩, prog_11_method_3_code, 2, none, 0, 1, (0, 0), false)
def m_35 : dM := (⟨"WingTrams$State", "takeBack", "()I"⟩, prog_11_method_4_code, 3, some .int, 0, 0, (0, 0), false)
def m_36 : dM := (⟨"WingTrams$Tokens", "<init>", "()V"⟩, prog_12_method_1_code, 1, none, 2, 0, (6, 6000), true)
def m_37 : dM := (⟨"WingTrams$Tokens", "cut", "(LWingTrams$Row;I)V"⟩, prog_12_method_2_code, 6, none, 0, 2, (0, 0), false)
def m_38 : dM := (⟨"WingTrams$Tokens", "add", "(III)V"⟩, prog_12_method_3_code, 4, none, 0, 3, (0, 0), false)
def m_39 : dM := (⟨"WingTrams$Tokens", "isLetter", "(I)Z"⟩, prog_12_method_4_code, 1, some .boolean, 1, 1, (0, 0), false)
def m_40 : dM := (⟨"WingTrams$Tokens", "isDigit", "(I)Z"⟩, prog_12_method_5_code, 1, some .boolean, 1, 1, (0, 0), false)
def m_41 : dM := (⟨"WingTrams$Tokens", "endOfWord", "(LWingTrams$Row;II)I"⟩, prog_12_method_6_code, 4, some .int, 1, 3, (0, 0), false)
def m_42 : dM := (⟨"WingTrams$Tokens", "endOfNumber", "(LWingTrams$Row;II)I"⟩, prog_12_method_7_code, 4, some .int, 1, 3, (0, 0), false)
def m_43 : dM := (⟨"WingTrams$Tokens", "numberAt", "(LWingTrams$Row;II)I"⟩, prog_12_method_8_code, 5, some .int, 1, 3, (0, 0), false)
def m_44 : dM := (⟨"WingTrams$Tokens", "wordCode", "(LWingTrams$Row;II)I"⟩, prog_12_method_9_code, 8, some .int, 1, 3, (0, 0), false)
def m_45 : dM := (⟨"WingTrams$Reader", "<init>", "(LWingTrams$Tokens;LWingTrams$City;)V"⟩, prog_6_method_1_code, 3, none, 2, 2, (0, 0), true)
def m_46 : dM := (⟨"WingTrams$Reader", "readCity", "()I"⟩, prog_6_method_2_code, 2, some .int, 0, 0, (0, 0), false)
def m_47 : dM := (⟨"WingTrams$Reader", "code", "()I"⟩, prog_6_method_3_code, 1, some .int, 0, 0, (0, 0), false)
def m_48 : dM := (⟨"WingTrams$Reader", "fail", "(I)Z"⟩, prog_6_method_4_code, 2, some .boolean, 0, 1, (0, 0), false)
def m_49 : dM := (⟨"WingTrams$Reader", "takeSign", "(I)Z"⟩, prog_6_method_5_code, 2, some .boolean, 0, 1, (0, 0), false)
def m_50 : dM := (⟨"WingTrams$Reader", "readLine", "()Z"⟩, prog_6_method_6_code, 2, some .boolean, 0, 0, (0, 0), false)
def m_51 : dM := (⟨"WingTrams$Reader", "readRoof", "()Z"⟩, prog_6_method_7_code, 2, some .boolean, 0, 0, (0, 0), false)
def m_52 : dM := (⟨"WingTrams$Reader", "readFlight", "()Z"⟩, prog_6_method_8_code, 4, some .boolean, 0, 0, (0, 0), false)
def m_53 : dM := (⟨"WingTrams$Reader", "readOwl", "(I)Z"⟩, prog_6_method_9_code, 3, some .boolean, 0, 1, (0, 0), false)
def m_54 : dM := (⟨"WingTrams$Reader", "readWay", "(I)Z"⟩, prog_6_method_10_code, 5, some .boolean, 0, 1, (0, 0), false)
def m_55 : dM := (⟨"WingTrams$Reader", "readRider", "()Z"⟩, prog_6_method_11_code, 5, some .boolean, 0, 0, (0, 0), false)
def m_56 : dM := (⟨"WingTrams$Reader", "readDawn", "()Z"⟩, prog_6_method_12_code, 1, some .boolean, 0, 0, (0, 0), false)
def m_57 : dM := (⟨"WingTrams$Reader", "takeNumber", "(II)I"⟩, prog_6_method_13_code, 4, some .int, 0, 2, (0, 0), false)
def m_58 : dM := (⟨"WingTrams$Reader", "roofHere", "()I"⟩, prog_6_method_14_code, 2, some .int, 0, 0, (0, 0), false)
def m_59 : dM := (⟨"WingTrams$Reader", "readHunts", "()Z"⟩, prog_6_method_15_code, 1, some .boolean, 0, 0, (0, 0), false)
def m_60 : dM := (⟨"WingTrams$Reader", "readExpr", "(I)Z"⟩, prog_6_method_16_code, 3, some .boolean, 0, 1, (0, 0), false)
def m_61 : dM := (⟨"WingTrams$Reader", "readAnd", "(I)Z"⟩, prog_6_method_17_code, 3, some .boolean, 0, 1, (0, 0), false)
def m_62 : dM := (⟨"WingTrams$Reader", "readNot", "(I)Z"⟩, prog_6_method_18_code, 4, some .boolean, 0, 1, (0, 0), false)
def m_63 : dM := (⟨"WingTrams$Reader", "readTest", "(I)Z"⟩, prog_6_method_19_code, 3, some .boolean, 0, 1, (0, 0), false)
def m_64 : dM := (⟨"WingTrams$Reader", "readSum", "(I)Z"⟩, prog_6_method_20_code, 4, some .boolean, 0, 1, (0, 0), false)
def m_65 : dM := (⟨"WingTrams$Reader", "readProduct", "(I)Z"⟩, prog_6_method_21_code, 4, some .boolean, 0, 1, (0, 0), false)
def m_66 : dM := (⟨"WingTrams$Reader", "readPart", "(I)Z"⟩, prog_6_method_22_code, 4, some .boolean, 0, 1, (0, 0), false)
def m_67 : dM := (⟨"WingTrams$Night", "<init>", "(LWingTrams$City;)V"⟩, prog_5_method_1_code, 2, none, 2, 1, (18, 18000), true)
def m_68 : dM := (⟨"WingTrams$Night", "pass", "(LWingTrams$Sky;)V"⟩, prog_5_method_2_code, 4, none, 0, 1, (0, 0), false)
def m_69 : dM := (⟨"WingTrams$Night", "nextOwl", "()I"⟩, prog_5_method_3_code, 4, some .int, 0, 0, (0, 0), false)
def m_70 : dM := (⟨"WingTrams$Night", "come", "(ILWingTrams$Sky;)V"⟩, prog_5_method_4_code, 9, none, 0, 2, (0, 0), false)
def m_71 : dM := (⟨"WingTrams$Night", "minutesHunted", "(IIILWingTrams$Sky;)I"⟩, prog_5_method_5_code, 6, some .int, 0, 4, (0, 0), false)
def m_72 : dM := (⟨"WingTrams$Night", "minutesFlown", "(IILWingTrams$Sky;)I"⟩, prog_5_method_6_code, 6, some .int, 0, 3, (0, 0), false)
def m_73 : dM := (⟨"WingTrams$Night", "lastMinuteOn", "(I)I"⟩, prog_5_method_7_code, 3, some .int, 0, 1, (0, 0), false)
def m_74 : dM := (⟨"WingTrams$Night", "roofOf", "(II)I"⟩, prog_5_method_8_code, 5, some .int, 0, 2, (0, 0), false)
def m_75 : dM := (⟨"WingTrams$Night", "minutesTogether", "(I)I"⟩, prog_5_method_9_code, 6, some .int, 0, 1, (0, 0), false)
def m_76 : dM := (⟨"WingTrams$Night", "markBoth", "(II)V"⟩, prog_5_method_10_code, 6, none, 0, 2, (0, 0), false)
def m_77 : dM := (⟨"WingTrams$Rides", "<init>", "(LWingTrams$City;LWingTrams$Night;)V"⟩, prog_7_method_1_code, 3, none, 2, 2, (8, 8000), true)
def m_78 : dM := (⟨"WingTrams$Rides", "arrive", "(I)V"⟩, prog_7_method_2_code, 6, none, 0, 1, (0, 0), false)
def m_79 : dM := (⟨"WingTrams$Rides", "minuteHome", "(I)I"⟩, prog_7_method_3_code, 3, some .int, 0, 1, (0, 0), false)
def m_80 : dM := (⟨"WingTrams$Rides", "countHome", "()I"⟩, prog_7_method_4_code, 3, some .int, 0, 0, (0, 0), false)
def m_81 : dM := (⟨"WingTrams$Rides", "allHomeBy", "(II)Z"⟩, prog_7_method_5_code, 5, some .boolean, 0, 2, (0, 0), false)
def m_82 : dM := (⟨"WingTrams$Rides", "roofsBy", "(II)I"⟩, prog_7_method_6_code, 6, some .int, 0, 2, (0, 0), false)
def m_83 : dM := (⟨"WingTrams$Rides", "lastOwl", "(I)I"⟩, prog_7_method_7_code, 5, some .int, 0, 1, (0, 0), false)
def m_84 : dM := (⟨"WingTrams$Rides", "bringsTo", "(III)Z"⟩, prog_7_method_8_code, 8, some .boolean, 0, 3, (0, 0), false)
def m_85 : dM := (⟨"WingTrams$Rides", "fewest", "(IZ)I"⟩, prog_7_method_9_code, 6, some .int, 0, 2, (0, 0), false)
def m_86 : dM := (⟨"WingTrams$Rides", "rideAlong", "(III)V"⟩, prog_7_method_10_code, 8, none, 0, 3, (0, 0), false)
def m_87 : dM := (⟨"WingTrams$Rides", "countStrapped", "(I)I"⟩, prog_7_method_11_code, 4, some .int, 0, 1, (0, 0), false)
def m_88 : dM := (⟨"WingTrams$Rides", "takesStrap", "(II)Z"⟩, prog_7_method_12_code, 8, some .boolean, 0, 2, (0, 0), false)
def m_89 : dM := (⟨"WingTrams$Rides", "cellToGetOn", "(II)I"⟩, prog_7_method_13_code, 4, some .int, 0, 2, (0, 0), false)
def m_90 : dM := (⟨"WingTrams$Rides", "hasStrap", "(III)Z"⟩, prog_7_method_14_code, 5, some .boolean, 0, 3, (0, 0), false)
def m_91 : dM := (⟨"WingTrams$Beams", "<init>", "(LWingTrams$City;)V"⟩, prog_2_method_1_code, 2, none, 2, 1, (4, 4000), true)
def m_92 : dM := (⟨"WingTrams$Beams", "choose", "(II)V"⟩, prog_2_method_2_code, 5, none, 0, 2, (0, 0), false)
def m_93 : dM := (⟨"WingTrams$Beams", "measure", "()V"⟩, prog_2_method_3_code, 5, none, 0, 0, (0, 0), false)
def m_94 : dM := (⟨"WingTrams$Beams", "shorten", "(I)V"⟩, prog_2_method_4_code, 5, none, 0, 1, (0, 0), false)
def m_95 : dM := (⟨"WingTrams$Beams", "ridersNear", "(II)I"⟩, prog_2_method_5_code, 5, some .int, 0, 2, (0, 0), false)
def m_96 : dM := (⟨"WingTrams$Beams", "ridersOfSet", "(I)I"⟩, prog_2_method_6_code, 4, some .int, 0, 1, (0, 0), false)
def m_97 : dM := (⟨"WingTrams", "<init>", "()V"⟩, prog_1_method_1_code, 1, none, 2, 0, (152, 152000), true)
def m_98 : dM := (⟨"WingTrams", "feed", "(IIIII)I"⟩, prog_1_method_2_code, 6, some .int, 0, 5, (0, 0), false)
def m_99 : dM := (⟨"WingTrams", "putBytes", "(I)V"⟩, prog_1_method_3_code, 3, none, 0, 1, (0, 0), false)
def m_100 : dM := (⟨"WingTrams", "city", "(I)I"⟩, prog_1_method_4_code, 3, some .int, 0, 1, (1, 6), false)
def m_101 : dM := (⟨"WingTrams", "fault", "()I"⟩, prog_1_method_5_code, 1, some .int, 0, 0, (0, 0), false)
def m_102 : dM := (⟨"WingTrams", "count", "(I)I"⟩, prog_1_method_6_code, 2, some .int, 0, 1, (1, 6), false)
def m_103 : dM := (⟨"WingTrams", "roof", "(II)I"⟩, prog_1_method_7_code, 3, some .int, 0, 2, (2, 12), false)
def m_104 : dM := (⟨"WingTrams", "flight", "(II)I"⟩, prog_1_method_8_code, 3, some .int, 0, 2, (2, 12), false)
def m_105 : dM := (⟨"WingTrams", "owl", "(II)I"⟩, prog_1_method_9_code, 3, some .int, 0, 2, (2, 12), false)
def m_106 : dM := (⟨"WingTrams", "stop", "(III)I"⟩, prog_1_method_10_code, 4, some .int, 0, 3, (2, 12), false)
def m_107 : dM := (⟨"WingTrams", "rider", "(II)I"⟩, prog_1_method_11_code, 3, some .int, 0, 2, (2, 12), false)
def m_108 : dM := (⟨"WingTrams", "where", "(II)I"⟩, prog_1_method_12_code, 3, some .int, 0, 2, (1, 6), false)
def m_109 : dM := (⟨"WingTrams", "needRoof", "(I)V"⟩, prog_1_method_13_code, 2, none, 0, 1, (1, 6), false)
def m_110 : dM := (⟨"WingTrams", "needOwl", "(I)V"⟩, prog_1_method_14_code, 2, none, 0, 1, (1, 6), false)
def m_111 : dM := (⟨"WingTrams", "needRider", "(I)V"⟩, prog_1_method_15_code, 2, none, 0, 1, (1, 6), false)
def m_112 : dM := (⟨"WingTrams", "refuse", "(I)I"⟩, prog_1_method_16_code, 2, some .int, 0, 1, (0, 0), false)
def m_113 : dM := (⟨"WingTrams", "obey", "(I)Z"⟩, prog_1_method_17_code, 2, some .boolean, 0, 1, (0, 0), false)
def m_114 : dM := (⟨"WingTrams", "moon", "(I)I"⟩, prog_1_method_18_code, 3, some .int, 0, 1, (0, 0), false)
def m_115 : dM := (⟨"WingTrams", "wet", "(Z)Z"⟩, prog_1_method_19_code, 3, some .boolean, 0, 1, (0, 0), false)
def m_116 : dM := (⟨"WingTrams", "nest", "(IZ)Z"⟩, prog_1_method_20_code, 3, some .boolean, 0, 2, (1, 6), false)
def m_117 : dM := (⟨"WingTrams", "grain", "(II)I"⟩, prog_1_method_21_code, 4, some .int, 0, 2, (1, 6), false)
def m_118 : dM := (⟨"WingTrams", "start", "(II)I"⟩, prog_1_method_22_code, 4, some .int, 0, 2, (1, 6), false)
def m_119 : dM := (⟨"WingTrams", "undo", "()I"⟩, prog_1_method_23_code, 1, some .int, 0, 0, (0, 0), false)
def m_120 : dM := (⟨"WingTrams", "home", "(I)I"⟩, prog_1_method_24_code, 2, some .int, 0, 1, (1, 6), false)
def m_121 : dM := (⟨"WingTrams", "changes", "(I)I"⟩, prog_1_method_25_code, 3, some .int, 0, 1, (1, 6), false)
def m_122 : dM := (⟨"WingTrams", "cheapest", "(I)I"⟩, prog_1_method_26_code, 2, some .int, 0, 1, (1, 6), false)
def m_123 : dM := (⟨"WingTrams", "last", "(I)I"⟩, prog_1_method_27_code, 2, some .int, 0, 1, (1, 6), false)
def m_124 : dM := (⟨"WingTrams", "never", "()I"⟩, prog_1_method_28_code, 3, some .int, 0, 0, (0, 0), false)
def m_125 : dM := (⟨"WingTrams", "reach", "(II)I"⟩, prog_1_method_29_code, 3, some .int, 0, 2, (1, 6), false)
def m_126 : dM := (⟨"WingTrams", "homes", "(LWingTrams$Sky;)I"⟩, prog_1_method_30_code, 2, some .int, 0, 1, (0, 0), false)
def m_127 : dM := (⟨"WingTrams", "lure", "(II)I"⟩, prog_1_method_31_code, 4, some .int, 0, 2, (1, 6), false)
def m_128 : dM := (⟨"WingTrams", "more", "(I)I"⟩, prog_1_method_32_code, 2, some .int, 0, 1, (2, 12), false)
def m_129 : dM := (⟨"WingTrams", "fewestGrains", "(II)I"⟩, prog_1_method_33_code, 5, some .int, 0, 2, (0, 0), false)
def m_130 : dM := (⟨"WingTrams", "nextRow", "()Z"⟩, prog_1_method_34_code, 3, some .boolean, 0, 0, (0, 0), false)
def m_131 : dM := (⟨"WingTrams", "luresHome", "(II)Z"⟩, prog_1_method_35_code, 5, some .boolean, 0, 2, (0, 0), false)
def m_132 : dM := (⟨"WingTrams", "beams", "(III)I"⟩, prog_1_method_36_code, 4, some .int, 0, 3, (1, 6), false)
def m_133 : dM := (⟨"WingTrams", "straps", "(I)I"⟩, prog_1_method_37_code, 2, some .int, 0, 1, (1, 6), false)
def m_134 : dM := (⟨"WingTrams", "worth", "(I)I"⟩, prog_1_method_38_code, 2, some .int, 0, 1, (1, 6), false)
def m_135 : dM := (⟨"WingTrams", "vital", "()I"⟩, prog_1_method_39_code, 3, some .int, 0, 0, (0, 0), false)
def m_136 : dM := (⟨"WingTrams", "worthOf", "(I)I"⟩, prog_1_method_40_code, 2, some .int, 0, 1, (0, 0), false)
def m_137 : dM := (⟨"WingTrams", "see", "(III)I"⟩, prog_1_method_41_code, 4, some .int, 0, 3, (1, 6), false)
def m_138 : dM := (⟨"WingTrams", "forget", "()V"⟩, prog_1_method_42_code, 1, none, 0, 0, (0, 0), false)
def m_139 : dM := (⟨"WingTrams", "fits", "()I"⟩, prog_1_method_43_code, 1, some .int, 0, 0, (0, 0), false)
def m_140 : dM := (⟨"WingTrams", "watch", "(I)I"⟩, prog_1_method_44_code, 7, some .int, 0, 1, (0, 0), false)
def m_141 : dM := (⟨"WingTrams", "fitting", "()I"⟩, prog_1_method_45_code, 3, some .int, 0, 0, (0, 0), false)
def m_142 : dM := (⟨"WingTrams", "passBy", "(I)V"⟩, prog_1_method_46_code, 2, none, 0, 1, (0, 0), false)
def m_143 : dM := (⟨"WingTrams", "allSeenIsSo", "()Z"⟩, prog_1_method_47_code, 2, some .boolean, 0, 0, (0, 0), false)
def m_144 : dM := (⟨"WingTrams", "countSeen", "(I)V"⟩, prog_1_method_48_code, 5, none, 0, 1, (0, 0), false)
def m_145 : dM := (⟨"WingTrams", "bats", "(I)I"⟩, prog_1_method_49_code, 6, some .int, 0, 1, (1, 6), false)
def m_146 : dM := (⟨"WingTrams", "rests", "(II)Z"⟩, prog_1_method_50_code, 4, some .boolean, 0, 2, (0, 0), false)
def m_147 : dM := (⟨"WingTrams", "owlsGain", "(II)I"⟩, prog_1_method_51_code, 3, some .int, 0, 2, (0, 0), false)
def m_148 : dM := (⟨"WingTrams", "batsGain", "(II)I"⟩, prog_1_method_52_code, 3, some .int, 0, 2, (0, 0), false)
def m_149 : dM := (⟨"WingTrams", "years", "(III)I"⟩, prog_1_method_53_code, 10, some .int, 0, 3, (1, 6), false)
def m_150 : dM := (⟨"WingTrams", "late", "(I)I"⟩, prog_1_method_54_code, 4, some .int, 0, 1, (1, 6), false)
def m_151 : dM := (⟨"WingTrams", "best", "()I"⟩, prog_1_method_55_code, 5, some .int, 0, 0, (0, 0), false)
def m_152 : dM := (⟨"WingTrams", "bright", "()I"⟩, prog_1_method_56_code, 5, some .int, 0, 0, (0, 0), false)
def m_153 : dM := (⟨"WingTrams", "hunter", "()I"⟩, prog_1_method_57_code, 4, some .int, 0, 0, (0, 0), false)
def m_154 : dM := (⟨"WingTrams", "image", "()V"⟩, prog_1_method_58_code, 1, none, 0, 0, (0, 0), false)
def m_155 : dM := (⟨"WingTrams", "restore", "()Z"⟩, prog_1_method_59_code, 1, some .boolean, 0, 0, (0, 0), false)
def m_156 : dM := (⟨"WingTramsModel", "<init>", "()V"⟩, prog_14_method_1_code, 1, none, 2, 0, (43, 9566), true)
def m_157 : dM := (⟨"WingTramsModel", "thrown", "()I"⟩, prog_14_method_2_code, 1, some .int, 0, 0, (0, 0), false)
def m_158 : dM := (⟨"WingTramsModel", "right", "(ZI)Z"⟩, prog_14_method_3_code, 3, some .boolean, 0, 2, (0, 0), false)
def m_159 : dM := (⟨"WingTramsModel", "within", "(III)Z"⟩, prog_14_method_4_code, 3, some .boolean, 1, 3, (0, 0), false)
def m_160 : dM := (⟨"WingTramsModel", "off", "(II)I"⟩, prog_14_method_5_code, 2, some .int, 1, 2, (0, 0), false)
def m_161 : dM := (⟨"WingTramsModel", "copies", "([I[I)V"⟩, prog_14_method_6_code, 4, none, 0, 2, (0, 0), false)
def m_162 : dM := (⟨"WingTramsModel", "bits", "(I)I"⟩, prog_14_method_7_code, 3, some .int, 1, 1, (0, 0), false)
def m_163 : dM := (⟨"WingTramsModel", "feed", "(IIIII)I"⟩, prog_14_method_8_code, 6, some .int, 0, 5, (0, 0), false)
def m_164 : dM := (⟨"WingTramsModel", "lays", "(I)V"⟩, prog_14_method_9_code, 3, none, 0, 1, (0, 0), false)
def m_165 : dM := (⟨"WingTramsModel", "byteAt", "(I)I"⟩, prog_14_method_10_code, 2, some .int, 0, 1, (0, 0), false)
def m_166 : dM := (⟨"WingTramsModel", "isLetter", "(I)Z"⟩, prog_14_method_11_code, 1, some .boolean, 1, 1, (0, 0), false)
def m_167 : dM := (⟨"WingTramsModel", "isDigit", "(I)Z"⟩, prog_14_method_12_code, 1, some .boolean, 1, 1, (0, 0), false)
def m_168 : dM := (⟨"WingTramsModel", "goes", "()V"⟩, prog_14_method_13_code, 2, none, 0, 0, (0, 0), false)
def m_169 : dM := (⟨"WingTramsModel", "spelled", "(IIIIII)J"⟩, prog_14_method_14_code, 8, some .long, 1, 6, (0, 0), false)
def m_170 : dM := (⟨"WingTramsModel", "letters", "(I)J"⟩, prog_14_method_15_code, 1, some .long, 1, 1, (0, 0), false)
def m_171 : dM := (⟨"WingTramsModel", "knownWord", "()I"⟩, prog_14_method_16_code, 2, some .int, 0, 0, (0, 0), false)
def m_172 : dM := (⟨"WingTramsModel", "wrong", "(I)V"⟩, prog_14_method_17_code, 2, none, 0, 1, (0, 0), false)
def m_173 : dM := (⟨"WingTramsModel", "isGood", "()Z"⟩, prog_14_method_18_code, 1, some .boolean, 0, 0, (0, 0), false)
def m_174 : dM := (⟨"WingTramsModel", "isSign", "(I)Z"⟩, prog_14_method_19_code, 2, some .boolean, 0, 1, (0, 0), false)
def m_175 : dM := (⟨"WingTramsModel", "need", "(Z)V"⟩, prog_14_method_20_code, 2, none, 0, 1, (0, 0), false)
def m_176 : dM := (⟨"WingTramsModel", "number", "(II)I"⟩, prog_14_method_21_code, 4, some .int, 0, 2, (0, 0), false)
def m_177 : dM := (⟨"WingTramsModel", "roofHere", "()I"⟩, prog_14_method_22_code, 1, some .int, 0, 0, (0, 0), false)
def m_178 : dM := (⟨"WingTramsModel", "roofNext", "()I"⟩, prog_14_method_23_code, 2, some .int, 0, 0, (0, 0), false)
def m_179 : dM := (⟨"WingTramsModel", "puts", "(I)V"⟩, prog_14_method_24_code, 2, none, 0, 1, (0, 0), false)
def m_180 : dM := (⟨"WingTramsModel", "isOpen", "(I)Z"⟩, prog_14_method_25_code, 1, some .boolean, 1, 1, (0, 0), false)
def m_181 : dM := (⟨"WingTramsModel", "strength", "(I)I"⟩, prog_14_method_26_code, 1, some .int, 1, 1, (0, 0), false)
def m_182 : dM := (⟨"WingTramsModel", "drops", "(I)V"⟩, prog_14_method_27_code, 2, none, 0, 1, (0, 0), false)
def m_183 : dM := (⟨"WingTramsModel", "waitsFor", "(I)V"⟩, prog_14_method_28_code, 2, none, 0, 1, (0, 0), false)
def m_184 : dM := (⟨"WingTramsModel", "part", "()V"⟩, prog_14_method_29_code, 2, none, 0, 0, (0, 0), false)
def m_185 : dM := (⟨"WingTramsModel", "deeper", "()V"⟩, prog_14_method_30_code, 1, none, 0, 0, (0, 0), false)
def m_186 : dM := (⟨"WingTramsModel", "operand", "(Z)V"⟩, prog_14_method_31_code, 5, none, 0, 1, (0, 0), false)
def m_187 : dM := (⟨"WingTramsModel", "isOpened", "()Z"⟩, prog_14_method_32_code, 2, some .boolean, 0, 0, (0, 0), false)
def m_188 : dM := (⟨"WingTramsModel", "closes", "()V"⟩, prog_14_method_33_code, 1, none, 0, 0, (0, 0), false)
def m_189 : dM := (⟨"WingTramsModel", "expression", "()V"⟩, prog_14_method_34_code, 3, none, 0, 0, (0, 0), false)
def m_190 : dM := (⟨"WingTramsModel", "readsFlight", "()V"⟩, prog_14_method_35_code, 4, none, 0, 0, (0, 0), false)
def m_191 : dM := (⟨"WingTramsModel", "readsOwl", "(I)V"⟩, prog_14_method_36_code, 5, none, 0, 1, (0, 0), false)
def m_192 : dM := (⟨"WingTramsModel", "readsRider", "()V"⟩, prog_14_method_37_code, 2, none, 0, 0, (0, 0), false)
def m_193 : dM := (⟨"WingTramsModel", "line", "()V"⟩, prog_14_method_38_code, 2, none, 0, 0, (0, 0), false)
def m_194 : dM := (⟨"WingTramsModel", "city", "(I)I"⟩, prog_14_method_39_code, 3, some .int, 0, 1, (0, 0), false)
def m_195 : dM := (⟨"WingTramsModel", "fault", "()I"⟩, prog_14_method_40_code, 1, some .int, 0, 0, (0, 0), false)
def m_196 : dM := (⟨"WingTramsModel", "refuses", "(I)I"⟩, prog_14_method_41_code, 2, some .int, 0, 1, (0, 0), false)
def m_197 : dM := (⟨"WingTramsModel", "becomes", "(II)I"⟩, prog_14_method_42_code, 4, some .int, 0, 2, (0, 0), false)
def m_198 : dM := (⟨"WingTramsModel", "undo", "()I"⟩, prog_14_method_43_code, 1, some .int, 0, 0, (0, 0), false)
def m_199 : dM := (⟨"WingTramsModel", "measures", "()V"⟩, prog_14_method_44_code, 4, none, 0, 0, (0, 0), false)
def m_200 : dM := (⟨"WingTramsModel", "works", "(III)I"⟩, prog_14_method_45_code, 3, some .int, 1, 3, (0, 0), false)
def m_201 : dM := (⟨"WingTramsModel", "reckons", "(I)I"⟩, prog_14_method_46_code, 5, some .int, 0, 1, (0, 0), false)
def m_202 : dM := (⟨"WingTramsModel", "nests", "(I)Z"⟩, prog_14_method_47_code, 2, some .boolean, 0, 1, (0, 0), false)
def m_203 : dM := (⟨"WingTramsModel", "huntsFor", "(II)I"⟩, prog_14_method_48_code, 4, some .int, 0, 2, (0, 0), false)
def m_204 : dM := (⟨"WingTramsModel", "flies", "(III)I"⟩, prog_14_method_49_code, 5, some .int, 0, 3, (0, 0), false)
def m_205 : dM := (⟨"WingTramsModel", "nights", "()V"⟩, prog_14_method_50_code, 6, none, 0, 0, (0, 0), false)
def m_206 : dM := (⟨"WingTramsModel", "whereIs", "(II)I"⟩, prog_14_method_51_code, 5, some .int, 0, 2, (0, 0), false)
def m_207 : dM := (⟨"WingTramsModel", "waitsAt", "(I[I)V"⟩, prog_14_method_52_code, 4, none, 0, 2, (0, 0), false)
def m_208 : dM := (⟨"WingTramsModel", "takes", "(I[II[II)Z"⟩, prog_14_method_53_code, 10, some .boolean, 0, 5, (0, 0), false)
def m_209 : dM := (⟨"WingTramsModel", "rides", "(I)V"⟩, prog_14_method_54_code, 4, none, 0, 1, (0, 0), false)
def m_210 : dM := (⟨"WingTramsModel", "homeOf", "(I)I"⟩, prog_14_method_55_code, 2, some .int, 0, 1, (0, 0), false)
def m_211 : dM := (⟨"WingTramsModel", "soonest", "(I)I"⟩, prog_14_method_56_code, 3, some .int, 0, 1, (0, 0), false)
def m_212 : dM := (⟨"WingTramsModel", "isThere", "(I)Z"⟩, prog_14_method_57_code, 2, some .boolean, 0, 1, (0, 0), false)
def m_213 : dM := (⟨"WingTramsModel", "homes", "()I"⟩, prog_14_method_58_code, 3, some .int, 0, 0, (0, 0), false)
def m_214 : dM := (⟨"WingTramsModel", "count", "(I)I"⟩, prog_14_method_59_code, 2, some .int, 0, 1, (0, 0), false)
def m_215 : dM := (⟨"WingTramsModel", "isRoof", "(I)Z"⟩, prog_14_method_60_code, 2, some .boolean, 0, 1, (0, 0), false)
def m_216 : dM := (⟨"WingTramsModel", "isOwl", "(I)Z"⟩, prog_14_method_61_code, 2, some .boolean, 0, 1, (0, 0), false)
def m_217 : dM := (⟨"WingTramsModel", "isRider", "(I)Z"⟩, prog_14_method_62_code, 2, some .boolean, 0, 1, (0, 0), false)
def m_218 : dM := (⟨"WingTramsModel", "isWhat", "(II)Z"⟩, prog_14_method_63_code, 3, some .boolean, 0, 2, (0, 0), false)
def m_219 : dM := (⟨"WingTramsModel", "roof", "(II)I"⟩, prog_14_method_64_code, 5, some .int, 0, 2, (0, 0), false)
def m_220 : dM := (⟨"WingTramsModel", "flight", "(II)I"⟩, prog_14_method_65_code, 3, some .int, 0, 2, (0, 0), false)
def m_221 : dM := (⟨"WingTramsModel", "together", "(I)I"⟩, prog_14_method_66_code, 7, some .int, 0, 1, (0, 0), false)
def m_222 : dM := (⟨"WingTramsModel", "owl", "(II)I"⟩, prog_14_method_67_code, 3, some .int, 0, 2, (0, 0), false)
def m_223 : dM := (⟨"WingTramsModel", "stop", "(III)I"⟩, prog_14_method_68_code, 4, some .int, 0, 3, (0, 0), false)
def m_224 : dM := (⟨"WingTramsModel", "rider", "(II)I"⟩, prog_14_method_69_code, 3, some .int, 0, 2, (0, 0), false)
def m_225 : dM := (⟨"WingTramsModel", "where", "(II)I"⟩, prog_14_method_70_code, 3, some .int, 0, 2, (0, 0), false)
def m_226 : dM := (⟨"WingTramsModel", "obey", "(I)Z"⟩, prog_14_method_71_code, 2, some .boolean, 0, 1, (0, 0), false)
def m_227 : dM := (⟨"WingTramsModel", "moon", "(I)I"⟩, prog_14_method_72_code, 2, some .int, 0, 1, (0, 0), false)
def m_228 : dM := (⟨"WingTramsModel", "wet", "(Z)Z"⟩, prog_14_method_73_code, 2, some .boolean, 0, 1, (0, 0), false)
def m_229 : dM := (⟨"WingTramsModel", "nest", "(IZ)Z"⟩, prog_14_method_74_code, 3, some .boolean, 0, 2, (0, 0), false)
def m_230 : dM := (⟨"WingTramsModel", "grain", "(II)I"⟩, prog_14_method_75_code, 3, some .int, 0, 2, (0, 0), false)
def m_231 : dM := (⟨"WingTramsModel", "start", "(II)I"⟩, prog_14_method_76_code, 3, some .int, 0, 2, (0, 0), false)
def m_232 : dM := (⟨"WingTramsModel", "shown", "(I)I"⟩, prog_14_method_77_code, 1, some .int, 1, 1, (0, 0), false)
def m_233 : dM := (⟨"WingTramsModel", "home", "(I)I"⟩, prog_14_method_78_code, 2, some .int, 0, 1, (0, 0), false)
def m_234 : dM := (⟨"WingTramsModel", "owlsFor", "(I)I"⟩, prog_14_method_79_code, 4, some .int, 0, 1, (0, 0), false)
def m_235 : dM := (⟨"WingTramsModel", "changes", "(I)I"⟩, prog_14_method_80_code, 3, some .int, 0, 1, (0, 0), false)
def m_236 : dM := (⟨"WingTramsModel", "cheapest", "(I)I"⟩, prog_14_method_81_code, 4, some .int, 0, 1, (0, 0), false)
def m_237 : dM := (⟨"WingTramsModel", "last", "(I)I"⟩, prog_14_method_82_code, 7, some .int, 0, 1, (0, 0), false)
def m_238 : dM := (⟨"WingTramsModel", "never", "()I"⟩, prog_14_method_83_code, 3, some .int, 0, 0, (0, 0), false)
def m_239 : dM := (⟨"WingTramsModel", "areHome", "(II)Z"⟩, prog_14_method_84_code, 4, some .boolean, 0, 2, (0, 0), false)
def m_240 : dM := (⟨"WingTramsModel", "lure", "(II)I"⟩, prog_14_method_85_code, 11, some .int, 0, 2, (0, 0), false)
def m_241 : dM := (⟨"WingTramsModel", "more", "(I)I"⟩, prog_14_method_86_code, 2, some .int, 0, 1, (0, 0), false)
def m_242 : dM := (⟨"WingTramsModel", "beams", "(III)I"⟩, prog_14_method_87_code, 11, some .int, 0, 3, (0, 0), false)
def m_243 : dM := (⟨"WingTramsModel", "onFor", "(III)I"⟩, prog_14_method_88_code, 5, some .int, 0, 3, (0, 0), false)
def m_244 : dM := (⟨"WingTramsModel", "isRoom", "(IIII)Z"⟩, prog_14_method_89_code, 6, some .boolean, 0, 4, (0, 0), false)
def m_245 : dM := (⟨"WingTramsModel", "hangs", "(II)Z"⟩, prog_14_method_90_code, 8, some .boolean, 0, 2, (0, 0), false)
def m_246 : dM := (⟨"WingTramsModel", "straps", "(I)I"⟩, prog_14_method_91_code, 5, some .int, 0, 1, (0, 0), false)
def m_247 : dM := (⟨"WingTramsModel", "worthOf", "(I)I"⟩, prog_14_method_92_code, 4, some .int, 0, 1, (0, 0), false)
def m_248 : dM := (⟨"WingTramsModel", "worth", "(I)I"⟩, prog_14_method_93_code, 2, some .int, 0, 1, (0, 0), false)
def m_249 : dM := (⟨"WingTramsModel", "vital", "()I"⟩, prog_14_method_94_code, 3, some .int, 0, 0, (0, 0), false)
def m_250 : dM := (⟨"WingTramsModel", "reach", "(II)I"⟩, prog_14_method_95_code, 5, some .int, 0, 2, (0, 0), false)
def m_251 : dM := (⟨"WingTramsModel", "late", "(I)I"⟩, prog_14_method_96_code, 6, some .int, 0, 1, (0, 0), false)
def m_252 : dM := (⟨"WingTramsModel", "bestOf", "(III)I"⟩, prog_14_method_97_code, 9, some .int, 0, 3, (0, 0), false)
def m_253 : dM := (⟨"WingTramsModel", "best", "()I"⟩, prog_14_method_98_code, 1, some .int, 0, 0, (0, 0), false)
def m_254 : dM := (⟨"WingTramsModel", "bright", "()I"⟩, prog_14_method_99_code, 1, some .int, 0, 0, (0, 0), false)
def m_255 : dM := (⟨"WingTramsModel", "hunter", "()I"⟩, prog_14_method_100_code, 3, some .int, 0, 0, (0, 0), false)
def m_256 : dM := (⟨"WingTramsModel", "see", "(III)I"⟩, prog_14_method_101_code, 4, some .int, 0, 3, (0, 0), false)
def m_257 : dM := (⟨"WingTramsModel", "forget", "()V"⟩, prog_14_method_102_code, 1, none, 0, 0, (0, 0), false)
def m_258 : dM := (⟨"WingTramsModel", "isSeen", "(I)Z"⟩, prog_14_method_103_code, 3, some .boolean, 0, 1, (0, 0), false)
def m_259 : dM := (⟨"WingTramsModel", "fits", "()I"⟩, prog_14_method_104_code, 4, some .int, 0, 0, (0, 0), false)
def m_260 : dM := (⟨"WingTramsModel", "watch", "(I)I"⟩, prog_14_method_105_code, 8, some .int, 0, 1, (0, 0), false)
def m_261 : dM := (⟨"WingTramsModel", "takers", "(I)I"⟩, prog_14_method_106_code, 4, some .int, 0, 1, (0, 0), false)
def m_262 : dM := (⟨"WingTramsModel", "gains", "(IIZ)I"⟩, prog_14_method_107_code, 5, some .int, 0, 3, (0, 0), false)
def m_263 : dM := (⟨"WingTramsModel", "bats", "(I)I"⟩, prog_14_method_108_code, 8, some .int, 0, 1, (0, 0), false)
def m_264 : dM := (⟨"WingTramsModel", "years", "(III)I"⟩, prog_14_method_109_code, 10, some .int, 0, 3, (0, 0), false)
def m_265 : dM := (⟨"WingTramsModel", "image", "()V"⟩, prog_14_method_110_code, 1, none, 0, 0, (0, 0), false)
def m_266 : dM := (⟨"WingTramsModel", "restore", "()Z"⟩, prog_14_method_111_code, 1, some .boolean, 0, 0, (0, 0), false)
theorem okM_0 : okM m_0 := ⟨tg3 195 (by decide +kernel) rfl, tg1 25 (by decide +kernel) rfl, fun h => absurd h (by decide), fun _ => tg3 194 (by decide +kernel) rfl, fun h => absurd h (by decide), by decide +kernel, by decide +kernel, by decide⟩
theorem okM_1 : okM m_1 := ⟨tg3 201 (by decide +kernel) rfl, tg1 22 (by decide +kernel) rfl, fun h => absurd h (by decide), fun _ => tg3 200 (by decide +kernel) rfl, fun h => absurd h (by decide), by decide +kernel, by decide +kernel, by decide⟩
theorem okM_2 : okM m_2 := ⟨tg3 105 (by decide +kernel) rfl, tg1 22 (by decide +kernel) rfl, fun h => absurd h (by decide), fun _ => tg3 104 (by decide +kernel) rfl, fun h => absurd h (by decide), by decide +kernel, by decide +kernel, by decide⟩
theorem okM_3 : okM m_3 := ⟨tg3 102 (by decide +kernel) rfl, tg1 22 (by decide +kernel) rfl, fun h => absurd h (by decide), fun _ => tg3 101 (by decide +kernel) rfl, fun h => absurd h (by decide), by decide +kernel, by decide +kernel, by decide⟩
theorem okM_4 : okM m_4 := ⟨tg1 38 (by decide +kernel) rfl, tg1 2 (by decide +kernel) rfl, fun h => absurd h (by decide), fun h => absurd h (by decide), fun _ => ⟨tg1 37 (by decide +kernel) rfl, rfl, rfl⟩, by decide +kernel, by decide +kernel, by decide⟩
theorem okM_5 : okM m_5 := ⟨tg3 35 (by decide +kernel) rfl, tg1 2 (by decide +kernel) rfl, fun _ => ⟨tg3 33 (by decide +kernel) rfl, tg3 34 (by decide +kernel) rfl⟩, fun h => absurd h (by decide), fun h => absurd h (by decide), by decide +kernel, by decide +kernel, by decide⟩
theorem okM_6 : okM m_6 := ⟨tg3 19 (by decide +kernel) rfl, tg1 2 (by decide +kernel) rfl, fun _ => ⟨tg3 17 (by decide +kernel) rfl, tg3 18 (by decide +kernel) rfl⟩, fun h => absurd h (by decide), fun h => absurd h (by decide), by decide +kernel, by decide +kernel, by decide⟩
theorem okM_7 : okM m_7 := ⟨tg3 127 (by decide +kernel) rfl, tg1 2 (by decide +kernel) rfl, fun _ => ⟨tg3 125 (by decide +kernel) rfl, tg3 126 (by decide +kernel) rfl⟩, fun h => absurd h (by decide), fun h => absurd h (by decide), by decide +kernel, by decide +kernel, by decide⟩
theorem okM_8 : okM m_8 := ⟨tg3 145 (by decide +kernel) rfl, tg1 2 (by decide +kernel) rfl, fun _ => ⟨tg3 143 (by decide +kernel) rfl, tg3 144 (by decide +kernel) rfl⟩, fun h => absurd h (by decide), fun h => absurd h (by decide), by decide +kernel, by decide +kernel, by decide⟩
theorem okM_9 : okM m_9 := ⟨tg2 43 (by decide +kernel) rfl, tg1 9 (by decide +kernel) rfl, fun h => absurd h (by decide), fun h => absurd h (by decide), fun _ => ⟨tg2 42 (by decide +kernel) rfl, rfl, rfl⟩, by decide +kernel, by decide +kernel, by decide⟩
theorem okM_10 : okM m_10 := ⟨tg3 39 (by decide +kernel) rfl, tg1 9 (by decide +kernel) rfl, fun _ => ⟨tg3 37 (by decide +kernel) rfl, tg3 38 (by decide +kernel) rfl⟩, fun h => absurd h (by decide), fun h => absurd h (by decide), by decide +kernel, by decide +kernel, by decide⟩
theorem okM_11 : okM m_11 := ⟨tg3 43 (by decide +kernel) rfl, tg1 9 (by decide +kernel) rfl, fun _ => ⟨tg3 42 (by decide +kernel) rfl, tgs 2 (by decide +kernel) rfl⟩, fun h => absurd h (by decide), fun h => absurd h (by decide), by decide +kernel, by decide +kernel, by decide⟩
theorem okM_12 : okM m_12 := ⟨tg3 226 (by decide +kernel) rfl, tg1 9 (by decide +kernel) rfl, fun _ => ⟨tg3 224 (by decide +kernel) rfl, tg3 225 (by decide +kernel) rfl⟩, fun h => absurd h (by decide), fun h => absurd h (by decide), by decide +kernel, by decide +kernel, by decide⟩
theorem okM_13 : okM m_13 := ⟨tg1 57 (by decide +kernel) rfl, tg1 4 (by decide +kernel) rfl, fun h => absurd h (by decide), fun h => absurd h (by decide), fun _ => ⟨tg1 56 (by decide +kernel) rfl, rfl, rfl⟩, by decide +kernel, by decide +kernel, by decide⟩
theorem okM_14 : okM m_14 := ⟨tg4 212 (by decide +kernel) rfl, tg1 4 (by decide +kernel) rfl, fun _ => ⟨tg4 210 (by decide +kernel) rfl, tg4 211 (by decide +kernel) rfl⟩, fun h => absurd h (by decide), fun h => absurd h (by decide), by decide +kernel, by decide +kernel, by decide⟩
theorem okM_15 : okM m_15 := ⟨tg5 77 (by decide +kernel) rfl, tg1 4 (by decide +kernel) rfl, fun _ => ⟨tg5 75 (by decide +kernel) rfl, tg5 76 (by decide +kernel) rfl⟩, fun h => absurd h (by decide), fun h => absurd h (by decide), by decide +kernel, by decide +kernel, by decide⟩
theorem okM_16 : okM m_16 := ⟨tg5 64 (by decide +kernel) rfl, tg1 4 (by decide +kernel) rfl, fun _ => ⟨tg5 62 (by decide +kernel) rfl, tg5 63 (by decide +kernel) rfl⟩, fun h => absurd h (by decide), fun h => absurd h (by decide), by decide +kernel, by decide +kernel, by decide⟩
theorem okM_17 : okM m_17 := ⟨tg5 68 (by decide +kernel) rfl, tg1 4 (by decide +kernel) rfl, fun _ => ⟨tg5 66 (by decide +kernel) rfl, tg5 67 (by decide +kernel) rfl⟩, fun h => absurd h (by decide), fun h => absurd h (by decide), by decide +kernel, by decide +kernel, by decide⟩
theorem okM_18 : okM m_18 := ⟨tg3 94 (by decide +kernel) rfl, tg1 4 (by decide +kernel) rfl, fun _ => ⟨tg3 92 (by decide +kernel) rfl, tg3 93 (by decide +kernel) rfl⟩, fun h => absurd h (by decide), fun h => absurd h (by decide), by decide +kernel, by decide +kernel, by decide⟩
theorem okM_19 : okM m_19 := ⟨tg3 99 (by decide +kernel) rfl, tg1 4 (by decide +kernel) rfl, fun h => absurd h (by decide), fun _ => tg3 98 (by decide +kernel) rfl, fun h => absurd h (by decide), by decide +kernel, by decide +kernel, by decide⟩
theorem okM_20 : okM m_20 := ⟨tg1 239 (by decide +kernel) rfl, tg1 8 (by decide +kernel) rfl, fun h => absurd h (by decide), fun h => absurd h (by decide), fun _ => ⟨tg1 238 (by decide +kernel) rfl, rfl, rfl⟩, by decide +kernel, by decide +kernel, by decide⟩
theorem okM_21 : okM m_21 := ⟨tg5 86 (by decide +kernel) rfl, tg1 8 (by decide +kernel) rfl, fun _ => ⟨tg5 84 (by decide +kernel) rfl, tg5 85 (by decide +kernel) rfl⟩, fun h => absurd h (by decide), fun h => absurd h (by decide), by decide +kernel, by decide +kernel, by decide⟩
theorem okM_22 : okM m_22 := ⟨tg3 141 (by decide +kernel) rfl, tg1 8 (by decide +kernel) rfl, fun _ => ⟨tg3 139 (by decide +kernel) rfl, tg3 140 (by decide +kernel) rfl⟩, fun h => absurd h (by decide), fun h => absurd h (by decide), by decide +kernel, by decide +kernel, by decide⟩
theorem okM_23 : okM m_23 := ⟨tg3 77 (by decide +kernel) rfl, tg1 8 (by decide +kernel) rfl, fun _ => ⟨tg3 75 (by decide +kernel) rfl, tg3 76 (by decide +kernel) rfl⟩, fun h => absurd h (by decide), fun h => absurd h (by decide), by decide +kernel, by decide +kernel, by decide⟩
theorem okM_24 : okM m_24 := ⟨tg1 49 (by decide +kernel) rfl, tg1 3 (by decide +kernel) rfl, fun h => absurd h (by decide), fun h => absurd h (by decide), fun _ => ⟨tg1 48 (by decide +kernel) rfl, rfl, rfl⟩, by decide +kernel, by decide +kernel, by decide⟩
theorem okM_25 : okM m_25 := ⟨tg4 207 (by decide +kernel) rfl, tg1 3 (by decide +kernel) rfl, fun _ => ⟨tg4 205 (by decide +kernel) rfl, tg4 206 (by decide +kernel) rfl⟩, fun h => absurd h (by decide), fun h => absurd h (by decide), by decide +kernel, by decide +kernel, by decide⟩
theorem okM_26 : okM m_26 := ⟨tg5 72 (by decide +kernel) rfl, tg1 3 (by decide +kernel) rfl, fun _ => ⟨tg5 70 (by decide +kernel) rfl, tg5 71 (by decide +kernel) rfl⟩, fun h => absurd h (by decide), fun h => absurd h (by decide), by decide +kernel, by decide +kernel, by decide⟩
theorem okM_27 : okM m_27 := ⟨tg5 7 (by decide +kernel) rfl, tg1 3 (by decide +kernel) rfl, fun _ => ⟨tg5 5 (by decide +kernel) rfl, tg5 6 (by decide +kernel) rfl⟩, fun h => absurd h (by decide), fun h => absurd h (by decide), by decide +kernel, by decide +kernel, by decide⟩
theorem okM_28 : okM m_28 := ⟨tg3 113 (by decide +kernel) rfl, tg1 3 (by decide +kernel) rfl, fun _ => ⟨tg3 111 (by decide +kernel) rfl, tg3 112 (by decide +kernel) rfl⟩, fun h => absurd h (by decide), fun h => absurd h (by decide), by decide +kernel, by decide +kernel, by decide⟩
theorem okM_29 : okM m_29 := ⟨tg5 130 (by decide +kernel) rfl, tg1 3 (by decide +kernel) rfl, fun _ => ⟨tg5 128 (by decide +kernel) rfl, tg5 129 (by decide +kernel) rfl⟩, fun h => absurd h (by decide), fun h => absurd h (by decide), by decide +kernel, by decide +kernel, by decide⟩
theorem okM_30 : okM m_30 := ⟨tg5 126 (by decide +kernel) rfl, tg1 3 (by decide +kernel) rfl, fun _ => ⟨tg5 124 (by decide +kernel) rfl, tg5 125 (by decide +kernel) rfl⟩, fun h => absurd h (by decide), fun h => absurd h (by decide), by decide +kernel, by decide +kernel, by decide⟩
theorem okM_31 : okM m_31 := ⟨tg6 141 (by decide +kernel) rfl, tg1 3 (by decide +kernel) rfl, fun _ => ⟨tg6 139 (by decide +kernel) rfl, tg6 140 (by decide +kernel) rfl⟩, fun h => absurd h (by decide), fun h => absurd h (by decide), by decide +kernel, by decide +kernel, by decide⟩
theorem okM_32 : okM m_32 := ⟨tg1 233 (by decide +kernel) rfl, tg1 7 (by decide +kernel) rfl, fun h => absurd h (by decide), fun h => absurd h (by decide), fun _ => ⟨tg1 232 (by decide +kernel) rfl, rfl, rfl⟩, by decide +kernel, by decide +kernel, by decide⟩
theorem okM_33 : okM m_33 := ⟨tg5 82 (by decide +kernel) rfl, tg1 7 (by decide +kernel) rfl, fun _ => ⟨tg5 80 (by decide +kernel) rfl, tg5 81 (by decide +kernel) rfl⟩, fun h => absurd h (by decide), fun h => absurd h (by decide), by decide +kernel, by decide +kernel, by decide⟩
theorem okM_34 : okM m_34 := ⟨tg3 221 (by decide +kernel) rfl, tg1 7 (by decide +kernel) rfl, fun _ => ⟨tg3 219 (by decide +kernel) rfl, tg3 220 (by decide +kernel) rfl⟩, fun h => absurd h (by decide), fun h => absurd h (by decide), by decide +kernel, by decide +kernel, by decide⟩
theorem okM_35 : okM m_35 := ⟨tg3 61 (by decide +kernel) rfl, tg1 7 (by decide +kernel) rfl, fun _ => ⟨tg3 59 (by decide +kernel) rfl, tg3 60 (by decide +kernel) rfl⟩, fun h => absurd h (by decide), fun h => absurd h (by decide), by decide +kernel, by decide +kernel, by decide⟩
theorem okM_36 : okM m_36 := ⟨tg1 183 (by decide +kernel) rfl, tg1 5 (by decide +kernel) rfl, fun h => absurd h (by decide), fun h => absurd h (by decide), fun _ => ⟨tg1 182 (by decide +kernel) rfl, rfl, rfl⟩, by decide +kernel, by decide +kernel, by decide⟩
theorem okM_37 : okM m_37 := ⟨tg4 70 (by decide +kernel) rfl, tg1 5 (by decide +kernel) rfl, fun _ => ⟨tg4 68 (by decide +kernel) rfl, tg4 69 (by decide +kernel) rfl⟩, fun h => absurd h (by decide), fun h => absurd h (by decide), by decide +kernel, by decide +kernel, by decide⟩
theorem okM_38 : okM m_38 := ⟨tg4 133 (by decide +kernel) rfl, tg1 5 (by decide +kernel) rfl, fun _ => ⟨tg4 132 (by decide +kernel) rfl, tgs 16 (by decide +kernel) rfl⟩, fun h => absurd h (by decide), fun h => absurd h (by decide), by decide +kernel, by decide +kernel, by decide⟩
theorem okM_39 : okM m_39 := ⟨tg4 74 (by decide +kernel) rfl, tg1 5 (by decide +kernel) rfl, fun h => absurd h (by decide), fun _ => tg4 73 (by decide +kernel) rfl, fun h => absurd h (by decide), by decide +kernel, by decide +kernel, by decide⟩
theorem okM_40 : okM m_40 := ⟨tg4 137 (by decide +kernel) rfl, tg1 5 (by decide +kernel) rfl, fun h => absurd h (by decide), fun _ => tg4 136 (by decide +kernel) rfl, fun h => absurd h (by decide), by decide +kernel, by decide +kernel, by decide⟩
theorem okM_41 : okM m_41 := ⟨tg4 77 (by decide +kernel) rfl, tg1 5 (by decide +kernel) rfl, fun h => absurd h (by decide), fun _ => tg4 76 (by decide +kernel) rfl, fun h => absurd h (by decide), by decide +kernel, by decide +kernel, by decide⟩
theorem okM_42 : okM m_42 := ⟨tg4 140 (by decide +kernel) rfl, tg1 5 (by decide +kernel) rfl, fun h => absurd h (by decide), fun _ => tg4 139 (by decide +kernel) rfl, fun h => absurd h (by decide), by decide +kernel, by decide +kernel, by decide⟩
theorem okM_43 : okM m_43 := ⟨tg4 143 (by decide +kernel) rfl, tg1 5 (by decide +kernel) rfl, fun h => absurd h (by decide), fun _ => tg4 142 (by decide +kernel) rfl, fun h => absurd h (by decide), by decide +kernel, by decide +kernel, by decide⟩
theorem okM_44 : okM m_44 := ⟨tg4 80 (by decide +kernel) rfl, tg1 5 (by decide +kernel) rfl, fun h => absurd h (by decide), fun _ => tg4 79 (by decide +kernel) rfl, fun h => absurd h (by decide), by decide +kernel, by decide +kernel, by decide⟩
theorem okM_45 : okM m_45 := ⟨tg1 207 (by decide +kernel) rfl, tg1 6 (by decide +kernel) rfl, fun h => absurd h (by decide), fun h => absurd h (by decide), fun _ => ⟨tg1 206 (by decide +kernel) rfl, rfl, rfl⟩, by decide +kernel, by decide +kernel, by decide⟩
theorem okM_46 : okM m_46 := ⟨tg4 203 (by decide +kernel) rfl, tg1 6 (by decide +kernel) rfl, fun _ => ⟨tg4 201 (by decide +kernel) rfl, tg4 202 (by decide +kernel) rfl⟩, fun h => absurd h (by decide), fun h => absurd h (by decide), by decide +kernel, by decide +kernel, by decide⟩
theorem okM_47 : okM m_47 := ⟨tg4 216 (by decide +kernel) rfl, tg1 6 (by decide +kernel) rfl, fun _ => ⟨tg4 215 (by decide +kernel) rfl, tgs 17 (by decide +kernel) rfl⟩, fun h => absurd h (by decide), fun h => absurd h (by decide), by decide +kernel, by decide +kernel, by decide⟩
theorem okM_48 : okM m_48 := ⟨tg4 229 (by decide +kernel) rfl, tg1 6 (by decide +kernel) rfl, fun _ => ⟨tg4 228 (by decide +kernel) rfl, tgs 20 (by decide +kernel) rfl⟩, fun h => absurd h (by decide), fun h => absurd h (by decide), by decide +kernel, by decide +kernel, by decide⟩
theorem okM_49 : okM m_49 := ⟨tg5 60 (by decide +kernel) rfl, tg1 6 (by decide +kernel) rfl, fun _ => ⟨tg5 59 (by decide +kernel) rfl, tgs 36 (by decide +kernel) rfl⟩, fun h => absurd h (by decide), fun h => absurd h (by decide), by decide +kernel, by decide +kernel, by decide⟩
theorem okM_50 : okM m_50 := ⟨tg4 221 (by decide +kernel) rfl, tg1 6 (by decide +kernel) rfl, fun _ => ⟨tg4 220 (by decide +kernel) rfl, tgs 18 (by decide +kernel) rfl⟩, fun h => absurd h (by decide), fun h => absurd h (by decide), by decide +kernel, by decide +kernel, by decide⟩
theorem okM_51 : okM m_51 := ⟨tg4 225 (by decide +kernel) rfl, tg1 6 (by decide +kernel) rfl, fun _ => ⟨tg4 224 (by decide +kernel) rfl, tgs 19 (by decide +kernel) rfl⟩, fun h => absurd h (by decide), fun h => absurd h (by decide), by decide +kernel, by decide +kernel, by decide⟩
theorem okM_52 : okM m_52 := ⟨tg4 238 (by decide +kernel) rfl, tg1 6 (by decide +kernel) rfl, fun _ => ⟨tg4 237 (by decide +kernel) rfl, tgs 22 (by decide +kernel) rfl⟩, fun h => absurd h (by decide), fun h => absurd h (by decide), by decide +kernel, by decide +kernel, by decide⟩
theorem okM_53 : okM m_53 := ⟨tg5 12 (by decide +kernel) rfl, tg1 6 (by decide +kernel) rfl, fun _ => ⟨tg5 11 (by decide +kernel) rfl, tgs 24 (by decide +kernel) rfl⟩, fun h => absurd h (by decide), fun h => absurd h (by decide), by decide +kernel, by decide +kernel, by decide⟩
theorem okM_54 : okM m_54 := ⟨tg5 16 (by decide +kernel) rfl, tg1 6 (by decide +kernel) rfl, fun _ => ⟨tg5 15 (by decide +kernel) rfl, tgs 25 (by decide +kernel) rfl⟩, fun h => absurd h (by decide), fun h => absurd h (by decide), by decide +kernel, by decide +kernel, by decide⟩
theorem okM_55 : okM m_55 := ⟨tg5 20 (by decide +kernel) rfl, tg1 6 (by decide +kernel) rfl, fun _ => ⟨tg5 19 (by decide +kernel) rfl, tgs 26 (by decide +kernel) rfl⟩, fun h => absurd h (by decide), fun h => absurd h (by decide), by decide +kernel, by decide +kernel, by decide⟩
theorem okM_56 : okM m_56 := ⟨tg5 24 (by decide +kernel) rfl, tg1 6 (by decide +kernel) rfl, fun _ => ⟨tg5 23 (by decide +kernel) rfl, tgs 27 (by decide +kernel) rfl⟩, fun h => absurd h (by decide), fun h => absurd h (by decide), by decide +kernel, by decide +kernel, by decide⟩
theorem okM_57 : okM m_57 := ⟨tg4 233 (by decide +kernel) rfl, tg1 6 (by decide +kernel) rfl, fun _ => ⟨tg4 232 (by decide +kernel) rfl, tgs 21 (by decide +kernel) rfl⟩, fun h => absurd h (by decide), fun h => absurd h (by decide), by decide +kernel, by decide +kernel, by decide⟩
theorem okM_58 : okM m_58 := ⟨tg5 2 (by decide +kernel) rfl, tg1 6 (by decide +kernel) rfl, fun _ => ⟨tg5 1 (by decide +kernel) rfl, tgs 23 (by decide +kernel) rfl⟩, fun h => absurd h (by decide), fun h => absurd h (by decide), by decide +kernel, by decide +kernel, by decide⟩
theorem okM_59 : okM m_59 := ⟨tg5 28 (by decide +kernel) rfl, tg1 6 (by decide +kernel) rfl, fun _ => ⟨tg5 27 (by decide +kernel) rfl, tgs 28 (by decide +kernel) rfl⟩, fun h => absurd h (by decide), fun h => absurd h (by decide), by decide +kernel, by decide +kernel, by decide⟩
theorem okM_60 : okM m_60 := ⟨tg5 32 (by decide +kernel) rfl, tg1 6 (by decide +kernel) rfl, fun _ => ⟨tg5 31 (by decide +kernel) rfl, tgs 29 (by decide +kernel) rfl⟩, fun h => absurd h (by decide), fun h => absurd h (by decide), by decide +kernel, by decide +kernel, by decide⟩
theorem okM_61 : okM m_61 := ⟨tg5 36 (by decide +kernel) rfl, tg1 6 (by decide +kernel) rfl, fun _ => ⟨tg5 35 (by decide +kernel) rfl, tgs 30 (by decide +kernel) rfl⟩, fun h => absurd h (by decide), fun h => absurd h (by decide), by decide +kernel, by decide +kernel, by decide⟩
theorem okM_62 : okM m_62 := ⟨tg5 40 (by decide +kernel) rfl, tg1 6 (by decide +kernel) rfl, fun _ => ⟨tg5 39 (by decide +kernel) rfl, tgs 31 (by decide +kernel) rfl⟩, fun h => absurd h (by decide), fun h => absurd h (by decide), by decide +kernel, by decide +kernel, by decide⟩
theorem okM_63 : okM m_63 := ⟨tg5 44 (by decide +kernel) rfl, tg1 6 (by decide +kernel) rfl, fun _ => ⟨tg5 43 (by decide +kernel) rfl, tgs 32 (by decide +kernel) rfl⟩, fun h => absurd h (by decide), fun h => absurd h (by decide), by decide +kernel, by decide +kernel, by decide⟩
theorem okM_64 : okM m_64 := ⟨tg5 48 (by decide +kernel) rfl, tg1 6 (by decide +kernel) rfl, fun _ => ⟨tg5 47 (by decide +kernel) rfl, tgs 33 (by decide +kernel) rfl⟩, fun h => absurd h (by decide), fun h => absurd h (by decide), by decide +kernel, by decide +kernel, by decide⟩
theorem okM_65 : okM m_65 := ⟨tg5 52 (by decide +kernel) rfl, tg1 6 (by decide +kernel) rfl, fun _ => ⟨tg5 51 (by decide +kernel) rfl, tgs 34 (by decide +kernel) rfl⟩, fun h => absurd h (by decide), fun h => absurd h (by decide), by decide +kernel, by decide +kernel, by decide⟩
theorem okM_66 : okM m_66 := ⟨tg5 56 (by decide +kernel) rfl, tg1 6 (by decide +kernel) rfl, fun _ => ⟨tg5 55 (by decide +kernel) rfl, tgs 35 (by decide +kernel) rfl⟩, fun h => absurd h (by decide), fun h => absurd h (by decide), by decide +kernel, by decide +kernel, by decide⟩
theorem okM_67 : okM m_67 := ⟨tg2 90 (by decide +kernel) rfl, tg1 10 (by decide +kernel) rfl, fun h => absurd h (by decide), fun h => absurd h (by decide), fun _ => ⟨tg2 89 (by decide +kernel) rfl, rfl, rfl⟩, by decide +kernel, by decide +kernel, by decide⟩
theorem okM_68 : okM m_68 := ⟨tg3 71 (by decide +kernel) rfl, tg1 10 (by decide +kernel) rfl, fun _ => ⟨tg3 69 (by decide +kernel) rfl, tg3 70 (by decide +kernel) rfl⟩, fun h => absurd h (by decide), fun h => absurd h (by decide), by decide +kernel, by decide +kernel, by decide⟩
theorem okM_69 : okM m_69 := ⟨tg3 82 (by decide +kernel) rfl, tg1 10 (by decide +kernel) rfl, fun _ => ⟨tg3 81 (by decide +kernel) rfl, tgs 3 (by decide +kernel) rfl⟩, fun h => absurd h (by decide), fun h => absurd h (by decide), by decide +kernel, by decide +kernel, by decide⟩
theorem okM_70 : okM m_70 := ⟨tg3 86 (by decide +kernel) rfl, tg1 10 (by decide +kernel) rfl, fun _ => ⟨tg3 85 (by decide +kernel) rfl, tgs 4 (by decide +kernel) rfl⟩, fun h => absurd h (by decide), fun h => absurd h (by decide), by decide +kernel, by decide +kernel, by decide⟩
theorem okM_71 : okM m_71 := ⟨tg3 90 (by decide +kernel) rfl, tg1 10 (by decide +kernel) rfl, fun _ => ⟨tg3 89 (by decide +kernel) rfl, tgs 5 (by decide +kernel) rfl⟩, fun h => absurd h (by decide), fun h => absurd h (by decide), by decide +kernel, by decide +kernel, by decide⟩
theorem okM_72 : okM m_72 := ⟨tg3 109 (by decide +kernel) rfl, tg1 10 (by decide +kernel) rfl, fun _ => ⟨tg3 108 (by decide +kernel) rfl, tgs 6 (by decide +kernel) rfl⟩, fun h => absurd h (by decide), fun h => absurd h (by decide), by decide +kernel, by decide +kernel, by decide⟩
theorem okM_73 : okM m_73 := ⟨tg3 182 (by decide +kernel) rfl, tg1 10 (by decide +kernel) rfl, fun _ => ⟨tg3 181 (by decide +kernel) rfl, tgs 13 (by decide +kernel) rfl⟩, fun h => absurd h (by decide), fun h => absurd h (by decide), by decide +kernel, by decide +kernel, by decide⟩
theorem okM_74 : okM m_74 := ⟨tg3 178 (by decide +kernel) rfl, tg1 10 (by decide +kernel) rfl, fun _ => ⟨tg3 176 (by decide +kernel) rfl, tg3 177 (by decide +kernel) rfl⟩, fun h => absurd h (by decide), fun h => absurd h (by decide), by decide +kernel, by decide +kernel, by decide⟩
theorem okM_75 : okM m_75 := ⟨tg5 157 (by decide +kernel) rfl, tg1 10 (by decide +kernel) rfl, fun _ => ⟨tg5 155 (by decide +kernel) rfl, tg5 156 (by decide +kernel) rfl⟩, fun h => absurd h (by decide), fun h => absurd h (by decide), by decide +kernel, by decide +kernel, by decide⟩
theorem okM_76 : okM m_76 := ⟨tg5 162 (by decide +kernel) rfl, tg1 10 (by decide +kernel) rfl, fun _ => ⟨tg5 161 (by decide +kernel) rfl, tgs 39 (by decide +kernel) rfl⟩, fun h => absurd h (by decide), fun h => absurd h (by decide), by decide +kernel, by decide +kernel, by decide⟩
theorem okM_77 : okM m_77 := ⟨tg2 141 (by decide +kernel) rfl, tg1 11 (by decide +kernel) rfl, fun h => absurd h (by decide), fun h => absurd h (by decide), fun _ => ⟨tg2 140 (by decide +kernel) rfl, rfl, rfl⟩, by decide +kernel, by decide +kernel, by decide⟩
theorem okM_78 : okM m_78 := ⟨tg3 122 (by decide +kernel) rfl, tg1 11 (by decide +kernel) rfl, fun _ => ⟨tg3 121 (by decide +kernel) rfl, tgs 7 (by decide +kernel) rfl⟩, fun h => absurd h (by decide), fun h => absurd h (by decide), by decide +kernel, by decide +kernel, by decide⟩
theorem okM_79 : okM m_79 := ⟨tg3 118 (by decide +kernel) rfl, tg1 11 (by decide +kernel) rfl, fun _ => ⟨tg3 116 (by decide +kernel) rfl, tg3 117 (by decide +kernel) rfl⟩, fun h => absurd h (by decide), fun h => absurd h (by decide), by decide +kernel, by decide +kernel, by decide⟩
theorem okM_80 : okM m_80 := ⟨tg3 153 (by decide +kernel) rfl, tg1 11 (by decide +kernel) rfl, fun _ => ⟨tg3 151 (by decide +kernel) rfl, tg3 152 (by decide +kernel) rfl⟩, fun h => absurd h (by decide), fun h => absurd h (by decide), by decide +kernel, by decide +kernel, by decide⟩
theorem okM_81 : okM m_81 := ⟨tg6 37 (by decide +kernel) rfl, tg1 11 (by decide +kernel) rfl, fun _ => ⟨tg6 35 (by decide +kernel) rfl, tg6 36 (by decide +kernel) rfl⟩, fun h => absurd h (by decide), fun h => absurd h (by decide), by decide +kernel, by decide +kernel, by decide⟩
theorem okM_82 : okM m_82 := ⟨tg6 166 (by decide +kernel) rfl, tg1 11 (by decide +kernel) rfl, fun _ => ⟨tg6 164 (by decide +kernel) rfl, tg6 165 (by decide +kernel) rfl⟩, fun h => absurd h (by decide), fun h => absurd h (by decide), by decide +kernel, by decide +kernel, by decide⟩
theorem okM_83 : okM m_83 := ⟨tg6 12 (by decide +kernel) rfl, tg1 11 (by decide +kernel) rfl, fun _ => ⟨tg6 10 (by decide +kernel) rfl, tg6 11 (by decide +kernel) rfl⟩, fun h => absurd h (by decide), fun h => absurd h (by decide), by decide +kernel, by decide +kernel, by decide⟩
theorem okM_84 : okM m_84 := ⟨tg6 16 (by decide +kernel) rfl, tg1 11 (by decide +kernel) rfl, fun _ => ⟨tg6 15 (by decide +kernel) rfl, tgs 42 (by decide +kernel) rfl⟩, fun h => absurd h (by decide), fun h => absurd h (by decide), by decide +kernel, by decide +kernel, by decide⟩
theorem okM_85 : okM m_85 := ⟨tg5 230 (by decide +kernel) rfl, tg1 11 (by decide +kernel) rfl, fun _ => ⟨tg5 228 (by decide +kernel) rfl, tg5 229 (by decide +kernel) rfl⟩, fun h => absurd h (by decide), fun h => absurd h (by decide), by decide +kernel, by decide +kernel, by decide⟩
theorem okM_86 : okM m_86 := ⟨tg5 234 (by decide +kernel) rfl, tg1 11 (by decide +kernel) rfl, fun _ => ⟨tg5 233 (by decide +kernel) rfl, tgs 41 (by decide +kernel) rfl⟩, fun h => absurd h (by decide), fun h => absurd h (by decide), by decide +kernel, by decide +kernel, by decide⟩
theorem okM_87 : okM m_87 := ⟨tg6 95 (by decide +kernel) rfl, tg1 11 (by decide +kernel) rfl, fun _ => ⟨tg6 93 (by decide +kernel) rfl, tg6 94 (by decide +kernel) rfl⟩, fun h => absurd h (by decide), fun h => absurd h (by decide), by decide +kernel, by decide +kernel, by decide⟩
theorem okM_88 : okM m_88 := ⟨tg6 99 (by decide +kernel) rfl, tg1 11 (by decide +kernel) rfl, fun _ => ⟨tg6 98 (by decide +kernel) rfl, tgs 50 (by decide +kernel) rfl⟩, fun h => absurd h (by decide), fun h => absurd h (by decide), by decide +kernel, by decide +kernel, by decide⟩
theorem okM_89 : okM m_89 := ⟨tg6 103 (by decide +kernel) rfl, tg1 11 (by decide +kernel) rfl, fun _ => ⟨tg6 102 (by decide +kernel) rfl, tgs 51 (by decide +kernel) rfl⟩, fun h => absurd h (by decide), fun h => absurd h (by decide), by decide +kernel, by decide +kernel, by decide⟩
theorem okM_90 : okM m_90 := ⟨tg6 107 (by decide +kernel) rfl, tg1 11 (by decide +kernel) rfl, fun _ => ⟨tg6 106 (by decide +kernel) rfl, tgs 52 (by decide +kernel) rfl⟩, fun h => absurd h (by decide), fun h => absurd h (by decide), by decide +kernel, by decide +kernel, by decide⟩
theorem okM_91 : okM m_91 := ⟨tg2 168 (by decide +kernel) rfl, tg1 12 (by decide +kernel) rfl, fun h => absurd h (by decide), fun h => absurd h (by decide), fun _ => ⟨tg2 167 (by decide +kernel) rfl, rfl, rfl⟩, by decide +kernel, by decide +kernel, by decide⟩
theorem okM_92 : okM m_92 := ⟨tg6 63 (by decide +kernel) rfl, tg1 12 (by decide +kernel) rfl, fun _ => ⟨tg6 61 (by decide +kernel) rfl, tg6 62 (by decide +kernel) rfl⟩, fun h => absurd h (by decide), fun h => absurd h (by decide), by decide +kernel, by decide +kernel, by decide⟩
theorem okM_93 : okM m_93 := ⟨tg6 67 (by decide +kernel) rfl, tg1 12 (by decide +kernel) rfl, fun _ => ⟨tg6 66 (by decide +kernel) rfl, tgs 46 (by decide +kernel) rfl⟩, fun h => absurd h (by decide), fun h => absurd h (by decide), by decide +kernel, by decide +kernel, by decide⟩
theorem okM_94 : okM m_94 := ⟨tg6 73 (by decide +kernel) rfl, tg1 12 (by decide +kernel) rfl, fun _ => ⟨tg6 72 (by decide +kernel) rfl, tgs 47 (by decide +kernel) rfl⟩, fun h => absurd h (by decide), fun h => absurd h (by decide), by decide +kernel, by decide +kernel, by decide⟩
theorem okM_95 : okM m_95 := ⟨tg6 78 (by decide +kernel) rfl, tg1 12 (by decide +kernel) rfl, fun _ => ⟨tg6 77 (by decide +kernel) rfl, tgs 48 (by decide +kernel) rfl⟩, fun h => absurd h (by decide), fun h => absurd h (by decide), by decide +kernel, by decide +kernel, by decide⟩
theorem okM_96 : okM m_96 := ⟨tg6 83 (by decide +kernel) rfl, tg1 12 (by decide +kernel) rfl, fun _ => ⟨tg6 82 (by decide +kernel) rfl, tgs 49 (by decide +kernel) rfl⟩, fun h => absurd h (by decide), fun h => absurd h (by decide), by decide +kernel, by decide +kernel, by decide⟩
theorem okM_97 : okM m_97 := ⟨tg1 30 (by decide +kernel) rfl, tg1 1 (by decide +kernel) rfl, fun h => absurd h (by decide), fun h => absurd h (by decide), fun _ => ⟨tg1 29 (by decide +kernel) rfl, rfl, rfl⟩, by decide +kernel, by decide +kernel, by decide⟩
theorem okM_98 : okM m_98 := ⟨tg3 11 (by decide +kernel) rfl, tg1 1 (by decide +kernel) rfl, fun _ => ⟨tg3 9 (by decide +kernel) rfl, tg3 10 (by decide +kernel) rfl⟩, fun h => absurd h (by decide), fun h => absurd h (by decide), by decide +kernel, by decide +kernel, by decide⟩
theorem okM_99 : okM m_99 := ⟨tg3 15 (by decide +kernel) rfl, tg1 1 (by decide +kernel) rfl, fun _ => ⟨tg3 14 (by decide +kernel) rfl, tgs 0 (by decide +kernel) rfl⟩, fun h => absurd h (by decide), fun h => absurd h (by decide), by decide +kernel, by decide +kernel, by decide⟩
theorem okM_100 : okM m_100 := ⟨tg3 239 (by decide +kernel) rfl, tg1 1 (by decide +kernel) rfl, fun _ => ⟨tg3 237 (by decide +kernel) rfl, tg3 238 (by decide +kernel) rfl⟩, fun h => absurd h (by decide), fun h => absurd h (by decide), by decide +kernel, by decide +kernel, by decide⟩
theorem okM_101 : okM m_101 := ⟨tg3 23 (by decide +kernel) rfl, tg1 1 (by decide +kernel) rfl, fun _ => ⟨tg3 21 (by decide +kernel) rfl, tg3 22 (by decide +kernel) rfl⟩, fun h => absurd h (by decide), fun h => absurd h (by decide), by decide +kernel, by decide +kernel, by decide⟩
theorem okM_102 : okM m_102 := ⟨tg5 94 (by decide +kernel) rfl, tg1 1 (by decide +kernel) rfl, fun _ => ⟨tg5 92 (by decide +kernel) rfl, tg5 93 (by decide +kernel) rfl⟩, fun h => absurd h (by decide), fun h => absurd h (by decide), by decide +kernel, by decide +kernel, by decide⟩
theorem okM_103 : okM m_103 := ⟨tg5 117 (by decide +kernel) rfl, tg1 1 (by decide +kernel) rfl, fun _ => ⟨tg5 115 (by decide +kernel) rfl, tg5 116 (by decide +kernel) rfl⟩, fun h => absurd h (by decide), fun h => absurd h (by decide), by decide +kernel, by decide +kernel, by decide⟩
theorem okM_104 : okM m_104 := ⟨tg5 139 (by decide +kernel) rfl, tg1 1 (by decide +kernel) rfl, fun _ => ⟨tg5 137 (by decide +kernel) rfl, tg5 138 (by decide +kernel) rfl⟩, fun h => absurd h (by decide), fun h => absurd h (by decide), by decide +kernel, by decide +kernel, by decide⟩
theorem okM_105 : okM m_105 := ⟨tg5 147 (by decide +kernel) rfl, tg1 1 (by decide +kernel) rfl, fun _ => ⟨tg5 145 (by decide +kernel) rfl, tg5 146 (by decide +kernel) rfl⟩, fun h => absurd h (by decide), fun h => absurd h (by decide), by decide +kernel, by decide +kernel, by decide⟩
theorem okM_106 : okM m_106 := ⟨tg5 170 (by decide +kernel) rfl, tg1 1 (by decide +kernel) rfl, fun _ => ⟨tg5 168 (by decide +kernel) rfl, tg5 169 (by decide +kernel) rfl⟩, fun h => absurd h (by decide), fun h => absurd h (by decide), by decide +kernel, by decide +kernel, by decide⟩
theorem okM_107 : okM m_107 := ⟨tg5 178 (by decide +kernel) rfl, tg1 1 (by decide +kernel) rfl, fun _ => ⟨tg5 176 (by decide +kernel) rfl, tg5 177 (by decide +kernel) rfl⟩, fun h => absurd h (by decide), fun h => absurd h (by decide), by decide +kernel, by decide +kernel, by decide⟩
theorem okM_108 : okM m_108 := ⟨tg5 191 (by decide +kernel) rfl, tg1 1 (by decide +kernel) rfl, fun _ => ⟨tg5 189 (by decide +kernel) rfl, tg5 190 (by decide +kernel) rfl⟩, fun h => absurd h (by decide), fun h => absurd h (by decide), by decide +kernel, by decide +kernel, by decide⟩
theorem okM_109 : okM m_109 := ⟨tg5 121 (by decide +kernel) rfl, tg1 1 (by decide +kernel) rfl, fun _ => ⟨tg5 120 (by decide +kernel) rfl, tgs 37 (by decide +kernel) rfl⟩, fun h => absurd h (by decide), fun h => absurd h (by decide), by decide +kernel, by decide +kernel, by decide⟩
theorem okM_110 : okM m_110 := ⟨tg5 151 (by decide +kernel) rfl, tg1 1 (by decide +kernel) rfl, fun _ => ⟨tg5 150 (by decide +kernel) rfl, tgs 38 (by decide +kernel) rfl⟩, fun h => absurd h (by decide), fun h => absurd h (by decide), by decide +kernel, by decide +kernel, by decide⟩
theorem okM_111 : okM m_111 := ⟨tg5 182 (by decide +kernel) rfl, tg1 1 (by decide +kernel) rfl, fun _ => ⟨tg5 181 (by decide +kernel) rfl, tgs 40 (by decide +kernel) rfl⟩, fun h => absurd h (by decide), fun h => absurd h (by decide), by decide +kernel, by decide +kernel, by decide⟩
theorem okM_112 : okM m_112 := ⟨tg3 31 (by decide +kernel) rfl, tg1 1 (by decide +kernel) rfl, fun _ => ⟨tg3 30 (by decide +kernel) rfl, tgs 1 (by decide +kernel) rfl⟩, fun h => absurd h (by decide), fun h => absurd h (by decide), by decide +kernel, by decide +kernel, by decide⟩
theorem okM_113 : okM m_113 := ⟨tg3 27 (by decide +kernel) rfl, tg1 1 (by decide +kernel) rfl, fun _ => ⟨tg3 25 (by decide +kernel) rfl, tg3 26 (by decide +kernel) rfl⟩, fun h => absurd h (by decide), fun h => absurd h (by decide), by decide +kernel, by decide +kernel, by decide⟩
theorem okM_114 : okM m_114 := ⟨tg3 49 (by decide +kernel) rfl, tg1 1 (by decide +kernel) rfl, fun _ => ⟨tg3 47 (by decide +kernel) rfl, tg3 48 (by decide +kernel) rfl⟩, fun h => absurd h (by decide), fun h => absurd h (by decide), by decide +kernel, by decide +kernel, by decide⟩
theorem okM_115 : okM m_115 := ⟨tg3 53 (by decide +kernel) rfl, tg1 1 (by decide +kernel) rfl, fun _ => ⟨tg3 51 (by decide +kernel) rfl, tg3 52 (by decide +kernel) rfl⟩, fun h => absurd h (by decide), fun h => absurd h (by decide), by decide +kernel, by decide +kernel, by decide⟩
theorem okM_116 : okM m_116 := ⟨tg5 198 (by decide +kernel) rfl, tg1 1 (by decide +kernel) rfl, fun _ => ⟨tg5 196 (by decide +kernel) rfl, tg5 197 (by decide +kernel) rfl⟩, fun h => absurd h (by decide), fun h => absurd h (by decide), by decide +kernel, by decide +kernel, by decide⟩
theorem okM_117 : okM m_117 := ⟨tg5 205 (by decide +kernel) rfl, tg1 1 (by decide +kernel) rfl, fun _ => ⟨tg5 203 (by decide +kernel) rfl, tg5 204 (by decide +kernel) rfl⟩, fun h => absurd h (by decide), fun h => absurd h (by decide), by decide +kernel, by decide +kernel, by decide⟩
theorem okM_118 : okM m_118 := ⟨tg5 212 (by decide +kernel) rfl, tg1 1 (by decide +kernel) rfl, fun _ => ⟨tg5 210 (by decide +kernel) rfl, tg5 211 (by decide +kernel) rfl⟩, fun h => absurd h (by decide), fun h => absurd h (by decide), by decide +kernel, by decide +kernel, by decide⟩
theorem okM_119 : okM m_119 := ⟨tg3 57 (by decide +kernel) rfl, tg1 1 (by decide +kernel) rfl, fun _ => ⟨tg3 55 (by decide +kernel) rfl, tg3 56 (by decide +kernel) rfl⟩, fun h => absurd h (by decide), fun h => absurd h (by decide), by decide +kernel, by decide +kernel, by decide⟩
theorem okM_120 : okM m_120 := ⟨tg5 219 (by decide +kernel) rfl, tg1 1 (by decide +kernel) rfl, fun _ => ⟨tg5 217 (by decide +kernel) rfl, tg5 218 (by decide +kernel) rfl⟩, fun h => absurd h (by decide), fun h => absurd h (by decide), by decide +kernel, by decide +kernel, by decide⟩
theorem okM_121 : okM m_121 := ⟨tg5 226 (by decide +kernel) rfl, tg1 1 (by decide +kernel) rfl, fun _ => ⟨tg5 224 (by decide +kernel) rfl, tg5 225 (by decide +kernel) rfl⟩, fun h => absurd h (by decide), fun h => absurd h (by decide), by decide +kernel, by decide +kernel, by decide⟩
theorem okM_122 : okM m_122 := ⟨tg6 1 (by decide +kernel) rfl, tg1 1 (by decide +kernel) rfl, fun _ => ⟨tg5 239 (by decide +kernel) rfl, tg6 0 (by decide +kernel) rfl⟩, fun h => absurd h (by decide), fun h => absurd h (by decide), by decide +kernel, by decide +kernel, by decide⟩
theorem okM_123 : okM m_123 := ⟨tg6 8 (by decide +kernel) rfl, tg1 1 (by decide +kernel) rfl, fun _ => ⟨tg6 6 (by decide +kernel) rfl, tg6 7 (by decide +kernel) rfl⟩, fun h => absurd h (by decide), fun h => absurd h (by decide), by decide +kernel, by decide +kernel, by decide⟩
theorem okM_124 : okM m_124 := ⟨tg3 67 (by decide +kernel) rfl, tg1 1 (by decide +kernel) rfl, fun _ => ⟨tg3 65 (by decide +kernel) rfl, tg3 66 (by decide +kernel) rfl⟩, fun h => absurd h (by decide), fun h => absurd h (by decide), by decide +kernel, by decide +kernel, by decide⟩
theorem okM_125 : okM m_125 := ⟨tg6 162 (by decide +kernel) rfl, tg1 1 (by decide +kernel) rfl, fun _ => ⟨tg6 160 (by decide +kernel) rfl, tg6 161 (by decide +kernel) rfl⟩, fun h => absurd h (by decide), fun h => absurd h (by decide), by decide +kernel, by decide +kernel, by decide⟩
theorem okM_126 : okM m_126 := ⟨tg3 149 (by decide +kernel) rfl, tg1 1 (by decide +kernel) rfl, fun _ => ⟨tg3 148 (by decide +kernel) rfl, tgs 9 (by decide +kernel) rfl⟩, fun h => absurd h (by decide), fun h => absurd h (by decide), by decide +kernel, by decide +kernel, by decide⟩
theorem okM_127 : okM m_127 := ⟨tg6 23 (by decide +kernel) rfl, tg1 1 (by decide +kernel) rfl, fun _ => ⟨tg6 21 (by decide +kernel) rfl, tg6 22 (by decide +kernel) rfl⟩, fun h => absurd h (by decide), fun h => absurd h (by decide), by decide +kernel, by decide +kernel, by decide⟩
theorem okM_128 : okM m_128 := ⟨tg6 49 (by decide +kernel) rfl, tg1 1 (by decide +kernel) rfl, fun _ => ⟨tg6 47 (by decide +kernel) rfl, tg6 48 (by decide +kernel) rfl⟩, fun h => absurd h (by decide), fun h => absurd h (by decide), by decide +kernel, by decide +kernel, by decide⟩
theorem okM_129 : okM m_129 := ⟨tg6 29 (by decide +kernel) rfl, tg1 1 (by decide +kernel) rfl, fun _ => ⟨tg6 28 (by decide +kernel) rfl, tgs 43 (by decide +kernel) rfl⟩, fun h => absurd h (by decide), fun h => absurd h (by decide), by decide +kernel, by decide +kernel, by decide⟩
theorem okM_130 : okM m_130 := ⟨tg6 41 (by decide +kernel) rfl, tg1 1 (by decide +kernel) rfl, fun _ => ⟨tg6 40 (by decide +kernel) rfl, tgs 45 (by decide +kernel) rfl⟩, fun h => absurd h (by decide), fun h => absurd h (by decide), by decide +kernel, by decide +kernel, by decide⟩
theorem okM_131 : okM m_131 := ⟨tg6 33 (by decide +kernel) rfl, tg1 1 (by decide +kernel) rfl, fun _ => ⟨tg6 32 (by decide +kernel) rfl, tgs 44 (by decide +kernel) rfl⟩, fun h => absurd h (by decide), fun h => absurd h (by decide), by decide +kernel, by decide +kernel, by decide⟩
theorem okM_132 : okM m_132 := ⟨tg6 57 (by decide +kernel) rfl, tg1 1 (by decide +kernel) rfl, fun _ => ⟨tg6 55 (by decide +kernel) rfl, tg6 56 (by decide +kernel) rfl⟩, fun h => absurd h (by decide), fun h => absurd h (by decide), by decide +kernel, by decide +kernel, by decide⟩
theorem okM_133 : okM m_133 := ⟨tg6 90 (by decide +kernel) rfl, tg1 1 (by decide +kernel) rfl, fun _ => ⟨tg6 88 (by decide +kernel) rfl, tg6 89 (by decide +kernel) rfl⟩, fun h => absurd h (by decide), fun h => absurd h (by decide), by decide +kernel, by decide +kernel, by decide⟩
theorem okM_134 : okM m_134 := ⟨tg6 114 (by decide +kernel) rfl, tg1 1 (by decide +kernel) rfl, fun _ => ⟨tg6 112 (by decide +kernel) rfl, tg6 113 (by decide +kernel) rfl⟩, fun h => absurd h (by decide), fun h => absurd h (by decide), by decide +kernel, by decide +kernel, by decide⟩
theorem okM_135 : okM m_135 := ⟨tg3 133 (by decide +kernel) rfl, tg1 1 (by decide +kernel) rfl, fun _ => ⟨tg3 131 (by decide +kernel) rfl, tg3 132 (by decide +kernel) rfl⟩, fun h => absurd h (by decide), fun h => absurd h (by decide), by decide +kernel, by decide +kernel, by decide⟩
theorem okM_136 : okM m_136 := ⟨tg3 137 (by decide +kernel) rfl, tg1 1 (by decide +kernel) rfl, fun _ => ⟨tg3 136 (by decide +kernel) rfl, tgs 8 (by decide +kernel) rfl⟩, fun h => absurd h (by decide), fun h => absurd h (by decide), by decide +kernel, by decide +kernel, by decide⟩
theorem okM_137 : okM m_137 := ⟨tg6 121 (by decide +kernel) rfl, tg1 1 (by decide +kernel) rfl, fun _ => ⟨tg6 119 (by decide +kernel) rfl, tg6 120 (by decide +kernel) rfl⟩, fun h => absurd h (by decide), fun h => absurd h (by decide), by decide +kernel, by decide +kernel, by decide⟩
theorem okM_138 : okM m_138 := ⟨tg3 158 (by decide +kernel) rfl, tg1 1 (by decide +kernel) rfl, fun _ => ⟨tg3 156 (by decide +kernel) rfl, tg3 157 (by decide +kernel) rfl⟩, fun h => absurd h (by decide), fun h => absurd h (by decide), by decide +kernel, by decide +kernel, by decide⟩
theorem okM_139 : okM m_139 := ⟨tg3 162 (by decide +kernel) rfl, tg1 1 (by decide +kernel) rfl, fun _ => ⟨tg3 160 (by decide +kernel) rfl, tg3 161 (by decide +kernel) rfl⟩, fun h => absurd h (by decide), fun h => absurd h (by decide), by decide +kernel, by decide +kernel, by decide⟩
theorem okM_140 : okM m_140 := ⟨tg3 186 (by decide +kernel) rfl, tg1 1 (by decide +kernel) rfl, fun _ => ⟨tg3 184 (by decide +kernel) rfl, tg3 185 (by decide +kernel) rfl⟩, fun h => absurd h (by decide), fun h => absurd h (by decide), by decide +kernel, by decide +kernel, by decide⟩
theorem okM_141 : okM m_141 := ⟨tg3 166 (by decide +kernel) rfl, tg1 1 (by decide +kernel) rfl, fun _ => ⟨tg3 165 (by decide +kernel) rfl, tgs 10 (by decide +kernel) rfl⟩, fun h => absurd h (by decide), fun h => absurd h (by decide), by decide +kernel, by decide +kernel, by decide⟩
theorem okM_142 : okM m_142 := ⟨tg3 170 (by decide +kernel) rfl, tg1 1 (by decide +kernel) rfl, fun _ => ⟨tg3 169 (by decide +kernel) rfl, tgs 11 (by decide +kernel) rfl⟩, fun h => absurd h (by decide), fun h => absurd h (by decide), by decide +kernel, by decide +kernel, by decide⟩
theorem okM_143 : okM m_143 := ⟨tg3 174 (by decide +kernel) rfl, tg1 1 (by decide +kernel) rfl, fun _ => ⟨tg3 173 (by decide +kernel) rfl, tgs 12 (by decide +kernel) rfl⟩, fun h => absurd h (by decide), fun h => absurd h (by decide), by decide +kernel, by decide +kernel, by decide⟩
theorem okM_144 : okM m_144 := ⟨tg3 192 (by decide +kernel) rfl, tg1 1 (by decide +kernel) rfl, fun _ => ⟨tg3 191 (by decide +kernel) rfl, tgs 14 (by decide +kernel) rfl⟩, fun h => absurd h (by decide), fun h => absurd h (by decide), by decide +kernel, by decide +kernel, by decide⟩
theorem okM_145 : okM m_145 := ⟨tg6 128 (by decide +kernel) rfl, tg1 1 (by decide +kernel) rfl, fun _ => ⟨tg6 126 (by decide +kernel) rfl, tg6 127 (by decide +kernel) rfl⟩, fun h => absurd h (by decide), fun h => absurd h (by decide), by decide +kernel, by decide +kernel, by decide⟩
theorem okM_146 : okM m_146 := ⟨tg6 133 (by decide +kernel) rfl, tg1 1 (by decide +kernel) rfl, fun _ => ⟨tg6 132 (by decide +kernel) rfl, tgs 53 (by decide +kernel) rfl⟩, fun h => absurd h (by decide), fun h => absurd h (by decide), by decide +kernel, by decide +kernel, by decide⟩
theorem okM_147 : okM m_147 := ⟨tg6 137 (by decide +kernel) rfl, tg1 1 (by decide +kernel) rfl, fun _ => ⟨tg6 136 (by decide +kernel) rfl, tgs 54 (by decide +kernel) rfl⟩, fun h => absurd h (by decide), fun h => absurd h (by decide), by decide +kernel, by decide +kernel, by decide⟩
theorem okM_148 : okM m_148 := ⟨tg6 145 (by decide +kernel) rfl, tg1 1 (by decide +kernel) rfl, fun _ => ⟨tg6 144 (by decide +kernel) rfl, tgs 55 (by decide +kernel) rfl⟩, fun h => absurd h (by decide), fun h => absurd h (by decide), by decide +kernel, by decide +kernel, by decide⟩
theorem okM_149 : okM m_149 := ⟨tg6 152 (by decide +kernel) rfl, tg1 1 (by decide +kernel) rfl, fun _ => ⟨tg6 150 (by decide +kernel) rfl, tg6 151 (by decide +kernel) rfl⟩, fun h => absurd h (by decide), fun h => absurd h (by decide), by decide +kernel, by decide +kernel, by decide⟩
theorem okM_150 : okM m_150 := ⟨tg6 173 (by decide +kernel) rfl, tg1 1 (by decide +kernel) rfl, fun _ => ⟨tg6 171 (by decide +kernel) rfl, tg6 172 (by decide +kernel) rfl⟩, fun h => absurd h (by decide), fun h => absurd h (by decide), by decide +kernel, by decide +kernel, by decide⟩
theorem okM_151 : okM m_151 := ⟨tg3 205 (by decide +kernel) rfl, tg1 1 (by decide +kernel) rfl, fun _ => ⟨tg3 203 (by decide +kernel) rfl, tg3 204 (by decide +kernel) rfl⟩, fun h => absurd h (by decide), fun h => absurd h (by decide), by decide +kernel, by decide +kernel, by decide⟩
theorem okM_152 : okM m_152 := ⟨tg3 209 (by decide +kernel) rfl, tg1 1 (by decide +kernel) rfl, fun _ => ⟨tg3 207 (by decide +kernel) rfl, tg3 208 (by decide +kernel) rfl⟩, fun h => absurd h (by decide), fun h => absurd h (by decide), by decide +kernel, by decide +kernel, by decide⟩
theorem okM_153 : okM m_153 := ⟨tg3 213 (by decide +kernel) rfl, tg1 1 (by decide +kernel) rfl, fun _ => ⟨tg3 211 (by decide +kernel) rfl, tg3 212 (by decide +kernel) rfl⟩, fun h => absurd h (by decide), fun h => absurd h (by decide), by decide +kernel, by decide +kernel, by decide⟩
theorem okM_154 : okM m_154 := ⟨tg3 217 (by decide +kernel) rfl, tg1 1 (by decide +kernel) rfl, fun _ => ⟨tg3 215 (by decide +kernel) rfl, tg3 216 (by decide +kernel) rfl⟩, fun h => absurd h (by decide), fun h => absurd h (by decide), by decide +kernel, by decide +kernel, by decide⟩
theorem okM_155 : okM m_155 := ⟨tg3 231 (by decide +kernel) rfl, tg1 1 (by decide +kernel) rfl, fun _ => ⟨tg3 229 (by decide +kernel) rfl, tg3 230 (by decide +kernel) rfl⟩, fun h => absurd h (by decide), fun h => absurd h (by decide), by decide +kernel, by decide +kernel, by decide⟩
theorem okM_156 : okM m_156 := ⟨tg6 178 (by decide +kernel) rfl, tg1 13 (by decide +kernel) rfl, fun h => absurd h (by decide), fun h => absurd h (by decide), fun _ => ⟨tg6 177 (by decide +kernel) rfl, rfl, rfl⟩, by decide +kernel, by decide +kernel, by decide⟩
theorem okM_157 : okM m_157 := ⟨tg7 173 (by decide +kernel) rfl, tg1 13 (by decide +kernel) rfl, fun _ => ⟨tg7 171 (by decide +kernel) rfl, tg7 172 (by decide +kernel) rfl⟩, fun h => absurd h (by decide), fun h => absurd h (by decide), by decide +kernel, by decide +kernel, by decide⟩
theorem okM_158 : okM m_158 := ⟨tg7 189 (by decide +kernel) rfl, tg1 13 (by decide +kernel) rfl, fun _ => ⟨tg7 188 (by decide +kernel) rfl, tgs 57 (by decide +kernel) rfl⟩, fun h => absurd h (by decide), fun h => absurd h (by decide), by decide +kernel, by decide +kernel, by decide⟩
theorem okM_159 : okM m_159 := ⟨tg8 84 (by decide +kernel) rfl, tg1 13 (by decide +kernel) rfl, fun h => absurd h (by decide), fun _ => tg8 83 (by decide +kernel) rfl, fun h => absurd h (by decide), by decide +kernel, by decide +kernel, by decide⟩
theorem okM_160 : okM m_160 := ⟨tg9 96 (by decide +kernel) rfl, tg1 13 (by decide +kernel) rfl, fun h => absurd h (by decide), fun _ => tg9 95 (by decide +kernel) rfl, fun h => absurd h (by decide), by decide +kernel, by decide +kernel, by decide⟩
theorem okM_161 : okM m_161 := ⟨tg8 64 (by decide +kernel) rfl, tg1 13 (by decide +kernel) rfl, fun _ => ⟨tg8 63 (by decide +kernel) rfl, tgs 81 (by decide +kernel) rfl⟩, fun h => absurd h (by decide), fun h => absurd h (by decide), by decide +kernel, by decide +kernel, by decide⟩
theorem okM_162 : okM m_162 := ⟨tg9 21 (by decide +kernel) rfl, tg1 13 (by decide +kernel) rfl, fun h => absurd h (by decide), fun _ => tg9 20 (by decide +kernel) rfl, fun h => absurd h (by decide), by decide +kernel, by decide +kernel, by decide⟩
theorem okM_163 : okM m_163 := ⟨tg7 177 (by decide +kernel) rfl, tg1 13 (by decide +kernel) rfl, fun _ => ⟨tg7 175 (by decide +kernel) rfl, tg7 176 (by decide +kernel) rfl⟩, fun h => absurd h (by decide), fun h => absurd h (by decide), by decide +kernel, by decide +kernel, by decide⟩
theorem okM_164 : okM m_164 := ⟨tg7 181 (by decide +kernel) rfl, tg1 13 (by decide +kernel) rfl, fun _ => ⟨tg7 180 (by decide +kernel) rfl, tgs 56 (by decide +kernel) rfl⟩, fun h => absurd h (by decide), fun h => absurd h (by decide), by decide +kernel, by decide +kernel, by decide⟩
theorem okM_165 : okM m_165 := ⟨tg7 197 (by decide +kernel) rfl, tg1 13 (by decide +kernel) rfl, fun _ => ⟨tg7 196 (by decide +kernel) rfl, tgs 59 (by decide +kernel) rfl⟩, fun h => absurd h (by decide), fun h => absurd h (by decide), by decide +kernel, by decide +kernel, by decide⟩
theorem okM_166 : okM m_166 := ⟨tg7 200 (by decide +kernel) rfl, tg1 13 (by decide +kernel) rfl, fun h => absurd h (by decide), fun _ => tg7 199 (by decide +kernel) rfl, fun h => absurd h (by decide), by decide +kernel, by decide +kernel, by decide⟩
theorem okM_167 : okM m_167 := ⟨tg7 203 (by decide +kernel) rfl, tg1 13 (by decide +kernel) rfl, fun h => absurd h (by decide), fun _ => tg7 202 (by decide +kernel) rfl, fun h => absurd h (by decide), by decide +kernel, by decide +kernel, by decide⟩
theorem okM_168 : okM m_168 := ⟨tg7 193 (by decide +kernel) rfl, tg1 13 (by decide +kernel) rfl, fun _ => ⟨tg7 192 (by decide +kernel) rfl, tgs 58 (by decide +kernel) rfl⟩, fun h => absurd h (by decide), fun h => absurd h (by decide), by decide +kernel, by decide +kernel, by decide⟩
theorem okM_169 : okM m_169 := ⟨tg7 221 (by decide +kernel) rfl, tg1 13 (by decide +kernel) rfl, fun h => absurd h (by decide), fun _ => tg7 220 (by decide +kernel) rfl, fun h => absurd h (by decide), by decide +kernel, by decide +kernel, by decide⟩
theorem okM_170 : okM m_170 := ⟨tg7 218 (by decide +kernel) rfl, tg1 13 (by decide +kernel) rfl, fun h => absurd h (by decide), fun _ => tg7 217 (by decide +kernel) rfl, fun h => absurd h (by decide), by decide +kernel, by decide +kernel, by decide⟩
theorem okM_171 : okM m_171 := ⟨tg7 215 (by decide +kernel) rfl, tg1 13 (by decide +kernel) rfl, fun _ => ⟨tg7 214 (by decide +kernel) rfl, tgs 62 (by decide +kernel) rfl⟩, fun h => absurd h (by decide), fun h => absurd h (by decide), by decide +kernel, by decide +kernel, by decide⟩
theorem okM_172 : okM m_172 := ⟨tg7 226 (by decide +kernel) rfl, tg1 13 (by decide +kernel) rfl, fun _ => ⟨tg7 225 (by decide +kernel) rfl, tgs 63 (by decide +kernel) rfl⟩, fun h => absurd h (by decide), fun h => absurd h (by decide), by decide +kernel, by decide +kernel, by decide⟩
theorem okM_173 : okM m_173 := ⟨tg7 207 (by decide +kernel) rfl, tg1 13 (by decide +kernel) rfl, fun _ => ⟨tg7 206 (by decide +kernel) rfl, tgs 60 (by decide +kernel) rfl⟩, fun h => absurd h (by decide), fun h => absurd h (by decide), by decide +kernel, by decide +kernel, by decide⟩
theorem okM_174 : okM m_174 := ⟨tg8 22 (by decide +kernel) rfl, tg1 13 (by decide +kernel) rfl, fun _ => ⟨tg8 21 (by decide +kernel) rfl, tgs 72 (by decide +kernel) rfl⟩, fun h => absurd h (by decide), fun h => absurd h (by decide), by decide +kernel, by decide +kernel, by decide⟩
theorem okM_175 : okM m_175 := ⟨tg8 60 (by decide +kernel) rfl, tg1 13 (by decide +kernel) rfl, fun _ => ⟨tg8 59 (by decide +kernel) rfl, tgs 80 (by decide +kernel) rfl⟩, fun h => absurd h (by decide), fun h => absurd h (by decide), by decide +kernel, by decide +kernel, by decide⟩
theorem okM_176 : okM m_176 := ⟨tg7 230 (by decide +kernel) rfl, tg1 13 (by decide +kernel) rfl, fun _ => ⟨tg7 229 (by decide +kernel) rfl, tgs 64 (by decide +kernel) rfl⟩, fun h => absurd h (by decide), fun h => absurd h (by decide), by decide +kernel, by decide +kernel, by decide⟩
theorem okM_177 : okM m_177 := ⟨tg8 2 (by decide +kernel) rfl, tg1 13 (by decide +kernel) rfl, fun _ => ⟨tg8 1 (by decide +kernel) rfl, tgs 67 (by decide +kernel) rfl⟩, fun h => absurd h (by decide), fun h => absurd h (by decide), by decide +kernel, by decide +kernel, by decide⟩
theorem okM_178 : okM m_178 := ⟨tg7 238 (by decide +kernel) rfl, tg1 13 (by decide +kernel) rfl, fun _ => ⟨tg7 237 (by decide +kernel) rfl, tgs 66 (by decide +kernel) rfl⟩, fun h => absurd h (by decide), fun h => absurd h (by decide), by decide +kernel, by decide +kernel, by decide⟩
theorem okM_179 : okM m_179 := ⟨tg8 38 (by decide +kernel) rfl, tg1 13 (by decide +kernel) rfl, fun _ => ⟨tg8 37 (by decide +kernel) rfl, tgs 76 (by decide +kernel) rfl⟩, fun h => absurd h (by decide), fun h => absurd h (by decide), by decide +kernel, by decide +kernel, by decide⟩
theorem okM_180 : okM m_180 := ⟨tg8 45 (by decide +kernel) rfl, tg1 13 (by decide +kernel) rfl, fun h => absurd h (by decide), fun _ => tg8 44 (by decide +kernel) rfl, fun h => absurd h (by decide), by decide +kernel, by decide +kernel, by decide⟩
theorem okM_181 : okM m_181 := ⟨tg8 48 (by decide +kernel) rfl, tg1 13 (by decide +kernel) rfl, fun h => absurd h (by decide), fun _ => tg8 47 (by decide +kernel) rfl, fun h => absurd h (by decide), by decide +kernel, by decide +kernel, by decide⟩
theorem okM_182 : okM m_182 := ⟨tg8 42 (by decide +kernel) rfl, tg1 13 (by decide +kernel) rfl, fun _ => ⟨tg8 41 (by decide +kernel) rfl, tgs 77 (by decide +kernel) rfl⟩, fun h => absurd h (by decide), fun h => absurd h (by decide), by decide +kernel, by decide +kernel, by decide⟩
theorem okM_183 : okM m_183 := ⟨tg8 30 (by decide +kernel) rfl, tg1 13 (by decide +kernel) rfl, fun _ => ⟨tg8 29 (by decide +kernel) rfl, tgs 74 (by decide +kernel) rfl⟩, fun h => absurd h (by decide), fun h => absurd h (by decide), by decide +kernel, by decide +kernel, by decide⟩
theorem okM_184 : okM m_184 := ⟨tg8 34 (by decide +kernel) rfl, tg1 13 (by decide +kernel) rfl, fun _ => ⟨tg8 33 (by decide +kernel) rfl, tgs 75 (by decide +kernel) rfl⟩, fun h => absurd h (by decide), fun h => absurd h (by decide), by decide +kernel, by decide +kernel, by decide⟩
theorem okM_185 : okM m_185 := ⟨tg8 18 (by decide +kernel) rfl, tg1 13 (by decide +kernel) rfl, fun _ => ⟨tg8 17 (by decide +kernel) rfl, tgs 71 (by decide +kernel) rfl⟩, fun h => absurd h (by decide), fun h => absurd h (by decide), by decide +kernel, by decide +kernel, by decide⟩
theorem okM_186 : okM m_186 := ⟨tg8 26 (by decide +kernel) rfl, tg1 13 (by decide +kernel) rfl, fun _ => ⟨tg8 25 (by decide +kernel) rfl, tgs 73 (by decide +kernel) rfl⟩, fun h => absurd h (by decide), fun h => absurd h (by decide), by decide +kernel, by decide +kernel, by decide⟩
theorem okM_187 : okM m_187 := ⟨tg8 52 (by decide +kernel) rfl, tg1 13 (by decide +kernel) rfl, fun _ => ⟨tg8 51 (by decide +kernel) rfl, tgs 78 (by decide +kernel) rfl⟩, fun h => absurd h (by decide), fun h => absurd h (by decide), by decide +kernel, by decide +kernel, by decide⟩
theorem okM_188 : okM m_188 := ⟨tg8 56 (by decide +kernel) rfl, tg1 13 (by decide +kernel) rfl, fun _ => ⟨tg8 55 (by decide +kernel) rfl, tgs 79 (by decide +kernel) rfl⟩, fun h => absurd h (by decide), fun h => absurd h (by decide), by decide +kernel, by decide +kernel, by decide⟩
theorem okM_189 : okM m_189 := ⟨tg8 14 (by decide +kernel) rfl, tg1 13 (by decide +kernel) rfl, fun _ => ⟨tg8 13 (by decide +kernel) rfl, tgs 70 (by decide +kernel) rfl⟩, fun h => absurd h (by decide), fun h => absurd h (by decide), by decide +kernel, by decide +kernel, by decide⟩
theorem okM_190 : okM m_190 := ⟨tg7 234 (by decide +kernel) rfl, tg1 13 (by decide +kernel) rfl, fun _ => ⟨tg7 233 (by decide +kernel) rfl, tgs 65 (by decide +kernel) rfl⟩, fun h => absurd h (by decide), fun h => absurd h (by decide), by decide +kernel, by decide +kernel, by decide⟩
theorem okM_191 : okM m_191 := ⟨tg8 6 (by decide +kernel) rfl, tg1 13 (by decide +kernel) rfl, fun _ => ⟨tg8 5 (by decide +kernel) rfl, tgs 68 (by decide +kernel) rfl⟩, fun h => absurd h (by decide), fun h => absurd h (by decide), by decide +kernel, by decide +kernel, by decide⟩
theorem okM_192 : okM m_192 := ⟨tg8 10 (by decide +kernel) rfl, tg1 13 (by decide +kernel) rfl, fun _ => ⟨tg8 9 (by decide +kernel) rfl, tgs 69 (by decide +kernel) rfl⟩, fun h => absurd h (by decide), fun h => absurd h (by decide), by decide +kernel, by decide +kernel, by decide⟩
theorem okM_193 : okM m_193 := ⟨tg7 211 (by decide +kernel) rfl, tg1 13 (by decide +kernel) rfl, fun _ => ⟨tg7 210 (by decide +kernel) rfl, tgs 61 (by decide +kernel) rfl⟩, fun h => absurd h (by decide), fun h => absurd h (by decide), by decide +kernel, by decide +kernel, by decide⟩
theorem okM_194 : okM m_194 := ⟨tg7 185 (by decide +kernel) rfl, tg1 13 (by decide +kernel) rfl, fun _ => ⟨tg7 183 (by decide +kernel) rfl, tg7 184 (by decide +kernel) rfl⟩, fun h => absurd h (by decide), fun h => absurd h (by decide), by decide +kernel, by decide +kernel, by decide⟩
theorem okM_195 : okM m_195 := ⟨tg8 73 (by decide +kernel) rfl, tg1 13 (by decide +kernel) rfl, fun _ => ⟨tg8 71 (by decide +kernel) rfl, tg8 72 (by decide +kernel) rfl⟩, fun h => absurd h (by decide), fun h => absurd h (by decide), by decide +kernel, by decide +kernel, by decide⟩
theorem okM_196 : okM m_196 := ⟨tg8 187 (by decide +kernel) rfl, tg1 13 (by decide +kernel) rfl, fun _ => ⟨tg8 186 (by decide +kernel) rfl, tgs 100 (by decide +kernel) rfl⟩, fun h => absurd h (by decide), fun h => absurd h (by decide), by decide +kernel, by decide +kernel, by decide⟩
theorem okM_197 : okM m_197 := ⟨tg8 191 (by decide +kernel) rfl, tg1 13 (by decide +kernel) rfl, fun _ => ⟨tg8 190 (by decide +kernel) rfl, tgs 101 (by decide +kernel) rfl⟩, fun h => absurd h (by decide), fun h => absurd h (by decide), by decide +kernel, by decide +kernel, by decide⟩
theorem okM_198 : okM m_198 := ⟨tg8 77 (by decide +kernel) rfl, tg1 13 (by decide +kernel) rfl, fun _ => ⟨tg8 75 (by decide +kernel) rfl, tg8 76 (by decide +kernel) rfl⟩, fun h => absurd h (by decide), fun h => absurd h (by decide), by decide +kernel, by decide +kernel, by decide⟩
theorem okM_199 : okM m_199 := ⟨tg8 68 (by decide +kernel) rfl, tg1 13 (by decide +kernel) rfl, fun _ => ⟨tg8 67 (by decide +kernel) rfl, tgs 82 (by decide +kernel) rfl⟩, fun h => absurd h (by decide), fun h => absurd h (by decide), by decide +kernel, by decide +kernel, by decide⟩
theorem okM_200 : okM m_200 := ⟨tg8 107 (by decide +kernel) rfl, tg1 13 (by decide +kernel) rfl, fun h => absurd h (by decide), fun _ => tg8 106 (by decide +kernel) rfl, fun h => absurd h (by decide), by decide +kernel, by decide +kernel, by decide⟩
theorem okM_201 : okM m_201 := ⟨tg8 104 (by decide +kernel) rfl, tg1 13 (by decide +kernel) rfl, fun _ => ⟨tg8 103 (by decide +kernel) rfl, tgs 87 (by decide +kernel) rfl⟩, fun h => absurd h (by decide), fun h => absurd h (by decide), by decide +kernel, by decide +kernel, by decide⟩
theorem okM_202 : okM m_202 := ⟨tg8 96 (by decide +kernel) rfl, tg1 13 (by decide +kernel) rfl, fun _ => ⟨tg8 95 (by decide +kernel) rfl, tgs 85 (by decide +kernel) rfl⟩, fun h => absurd h (by decide), fun h => absurd h (by decide), by decide +kernel, by decide +kernel, by decide⟩
theorem okM_203 : okM m_203 := ⟨tg8 100 (by decide +kernel) rfl, tg1 13 (by decide +kernel) rfl, fun _ => ⟨tg8 99 (by decide +kernel) rfl, tgs 86 (by decide +kernel) rfl⟩, fun h => absurd h (by decide), fun h => absurd h (by decide), by decide +kernel, by decide +kernel, by decide⟩
theorem okM_204 : okM m_204 := ⟨tg8 111 (by decide +kernel) rfl, tg1 13 (by decide +kernel) rfl, fun _ => ⟨tg8 110 (by decide +kernel) rfl, tgs 88 (by decide +kernel) rfl⟩, fun h => absurd h (by decide), fun h => absurd h (by decide), by decide +kernel, by decide +kernel, by decide⟩
theorem okM_205 : okM m_205 := ⟨tg8 92 (by decide +kernel) rfl, tg1 13 (by decide +kernel) rfl, fun _ => ⟨tg8 91 (by decide +kernel) rfl, tgs 84 (by decide +kernel) rfl⟩, fun h => absurd h (by decide), fun h => absurd h (by decide), by decide +kernel, by decide +kernel, by decide⟩
theorem okM_206 : okM m_206 := ⟨tg8 163 (by decide +kernel) rfl, tg1 13 (by decide +kernel) rfl, fun _ => ⟨tg8 162 (by decide +kernel) rfl, tgs 98 (by decide +kernel) rfl⟩, fun h => absurd h (by decide), fun h => absurd h (by decide), by decide +kernel, by decide +kernel, by decide⟩
theorem okM_207 : okM m_207 := ⟨tg8 123 (by decide +kernel) rfl, tg1 13 (by decide +kernel) rfl, fun _ => ⟨tg8 122 (by decide +kernel) rfl, tgs 91 (by decide +kernel) rfl⟩, fun h => absurd h (by decide), fun h => absurd h (by decide), by decide +kernel, by decide +kernel, by decide⟩
theorem okM_208 : okM m_208 := ⟨tg8 127 (by decide +kernel) rfl, tg1 13 (by decide +kernel) rfl, fun _ => ⟨tg8 126 (by decide +kernel) rfl, tgs 92 (by decide +kernel) rfl⟩, fun h => absurd h (by decide), fun h => absurd h (by decide), by decide +kernel, by decide +kernel, by decide⟩
theorem okM_209 : okM m_209 := ⟨tg8 119 (by decide +kernel) rfl, tg1 13 (by decide +kernel) rfl, fun _ => ⟨tg8 118 (by decide +kernel) rfl, tgs 90 (by decide +kernel) rfl⟩, fun h => absurd h (by decide), fun h => absurd h (by decide), by decide +kernel, by decide +kernel, by decide⟩
theorem okM_210 : okM m_210 := ⟨tg8 131 (by decide +kernel) rfl, tg1 13 (by decide +kernel) rfl, fun _ => ⟨tg8 130 (by decide +kernel) rfl, tgs 93 (by decide +kernel) rfl⟩, fun h => absurd h (by decide), fun h => absurd h (by decide), by decide +kernel, by decide +kernel, by decide⟩
theorem okM_211 : okM m_211 := ⟨tg8 115 (by decide +kernel) rfl, tg1 13 (by decide +kernel) rfl, fun _ => ⟨tg8 114 (by decide +kernel) rfl, tgs 89 (by decide +kernel) rfl⟩, fun h => absurd h (by decide), fun h => absurd h (by decide), by decide +kernel, by decide +kernel, by decide⟩
theorem okM_212 : okM m_212 := ⟨tg8 238 (by decide +kernel) rfl, tg1 13 (by decide +kernel) rfl, fun _ => ⟨tg8 237 (by decide +kernel) rfl, tgs 103 (by decide +kernel) rfl⟩, fun h => absurd h (by decide), fun h => absurd h (by decide), by decide +kernel, by decide +kernel, by decide⟩
theorem okM_213 : okM m_213 := ⟨tg8 88 (by decide +kernel) rfl, tg1 13 (by decide +kernel) rfl, fun _ => ⟨tg8 87 (by decide +kernel) rfl, tgs 83 (by decide +kernel) rfl⟩, fun h => absurd h (by decide), fun h => absurd h (by decide), by decide +kernel, by decide +kernel, by decide⟩
theorem okM_214 : okM m_214 := ⟨tg8 81 (by decide +kernel) rfl, tg1 13 (by decide +kernel) rfl, fun _ => ⟨tg8 79 (by decide +kernel) rfl, tg8 80 (by decide +kernel) rfl⟩, fun h => absurd h (by decide), fun h => absurd h (by decide), by decide +kernel, by decide +kernel, by decide⟩
theorem okM_215 : okM m_215 := ⟨tg8 139 (by decide +kernel) rfl, tg1 13 (by decide +kernel) rfl, fun _ => ⟨tg8 138 (by decide +kernel) rfl, tgs 94 (by decide +kernel) rfl⟩, fun h => absurd h (by decide), fun h => absurd h (by decide), by decide +kernel, by decide +kernel, by decide⟩
theorem okM_216 : okM m_216 := ⟨tg8 155 (by decide +kernel) rfl, tg1 13 (by decide +kernel) rfl, fun _ => ⟨tg8 154 (by decide +kernel) rfl, tgs 96 (by decide +kernel) rfl⟩, fun h => absurd h (by decide), fun h => absurd h (by decide), by decide +kernel, by decide +kernel, by decide⟩
theorem okM_217 : okM m_217 := ⟨tg8 175 (by decide +kernel) rfl, tg1 13 (by decide +kernel) rfl, fun _ => ⟨tg8 174 (by decide +kernel) rfl, tgs 99 (by decide +kernel) rfl⟩, fun h => absurd h (by decide), fun h => absurd h (by decide), by decide +kernel, by decide +kernel, by decide⟩
theorem okM_218 : okM m_218 := ⟨tg8 143 (by decide +kernel) rfl, tg1 13 (by decide +kernel) rfl, fun _ => ⟨tg8 142 (by decide +kernel) rfl, tgs 95 (by decide +kernel) rfl⟩, fun h => absurd h (by decide), fun h => absurd h (by decide), by decide +kernel, by decide +kernel, by decide⟩
theorem okM_219 : okM m_219 := ⟨tg8 135 (by decide +kernel) rfl, tg1 13 (by decide +kernel) rfl, fun _ => ⟨tg8 133 (by decide +kernel) rfl, tg8 134 (by decide +kernel) rfl⟩, fun h => absurd h (by decide), fun h => absurd h (by decide), by decide +kernel, by decide +kernel, by decide⟩
theorem okM_220 : okM m_220 := ⟨tg8 147 (by decide +kernel) rfl, tg1 13 (by decide +kernel) rfl, fun _ => ⟨tg8 145 (by decide +kernel) rfl, tg8 146 (by decide +kernel) rfl⟩, fun h => absurd h (by decide), fun h => absurd h (by decide), by decide +kernel, by decide +kernel, by decide⟩
theorem okM_221 : okM m_221 := ⟨tg8 159 (by decide +kernel) rfl, tg1 13 (by decide +kernel) rfl, fun _ => ⟨tg8 158 (by decide +kernel) rfl, tgs 97 (by decide +kernel) rfl⟩, fun h => absurd h (by decide), fun h => absurd h (by decide), by decide +kernel, by decide +kernel, by decide⟩
theorem okM_222 : okM m_222 := ⟨tg8 151 (by decide +kernel) rfl, tg1 13 (by decide +kernel) rfl, fun _ => ⟨tg8 149 (by decide +kernel) rfl, tg8 150 (by decide +kernel) rfl⟩, fun h => absurd h (by decide), fun h => absurd h (by decide), by decide +kernel, by decide +kernel, by decide⟩
theorem okM_223 : okM m_223 := ⟨tg8 167 (by decide +kernel) rfl, tg1 13 (by decide +kernel) rfl, fun _ => ⟨tg8 165 (by decide +kernel) rfl, tg8 166 (by decide +kernel) rfl⟩, fun h => absurd h (by decide), fun h => absurd h (by decide), by decide +kernel, by decide +kernel, by decide⟩
theorem okM_224 : okM m_224 := ⟨tg8 171 (by decide +kernel) rfl, tg1 13 (by decide +kernel) rfl, fun _ => ⟨tg8 169 (by decide +kernel) rfl, tg8 170 (by decide +kernel) rfl⟩, fun h => absurd h (by decide), fun h => absurd h (by decide), by decide +kernel, by decide +kernel, by decide⟩
theorem okM_225 : okM m_225 := ⟨tg8 179 (by decide +kernel) rfl, tg1 13 (by decide +kernel) rfl, fun _ => ⟨tg8 177 (by decide +kernel) rfl, tg8 178 (by decide +kernel) rfl⟩, fun h => absurd h (by decide), fun h => absurd h (by decide), by decide +kernel, by decide +kernel, by decide⟩
theorem okM_226 : okM m_226 := ⟨tg8 183 (by decide +kernel) rfl, tg1 13 (by decide +kernel) rfl, fun _ => ⟨tg8 181 (by decide +kernel) rfl, tg8 182 (by decide +kernel) rfl⟩, fun h => absurd h (by decide), fun h => absurd h (by decide), by decide +kernel, by decide +kernel, by decide⟩
theorem okM_227 : okM m_227 := ⟨tg8 195 (by decide +kernel) rfl, tg1 13 (by decide +kernel) rfl, fun _ => ⟨tg8 193 (by decide +kernel) rfl, tg8 194 (by decide +kernel) rfl⟩, fun h => absurd h (by decide), fun h => absurd h (by decide), by decide +kernel, by decide +kernel, by decide⟩
theorem okM_228 : okM m_228 := ⟨tg8 199 (by decide +kernel) rfl, tg1 13 (by decide +kernel) rfl, fun _ => ⟨tg8 197 (by decide +kernel) rfl, tg8 198 (by decide +kernel) rfl⟩, fun h => absurd h (by decide), fun h => absurd h (by decide), by decide +kernel, by decide +kernel, by decide⟩
theorem okM_229 : okM m_229 := ⟨tg8 203 (by decide +kernel) rfl, tg1 13 (by decide +kernel) rfl, fun _ => ⟨tg8 201 (by decide +kernel) rfl, tg8 202 (by decide +kernel) rfl⟩, fun h => absurd h (by decide), fun h => absurd h (by decide), by decide +kernel, by decide +kernel, by decide⟩
theorem okM_230 : okM m_230 := ⟨tg8 207 (by decide +kernel) rfl, tg1 13 (by decide +kernel) rfl, fun _ => ⟨tg8 205 (by decide +kernel) rfl, tg8 206 (by decide +kernel) rfl⟩, fun h => absurd h (by decide), fun h => absurd h (by decide), by decide +kernel, by decide +kernel, by decide⟩
theorem okM_231 : okM m_231 := ⟨tg8 211 (by decide +kernel) rfl, tg1 13 (by decide +kernel) rfl, fun _ => ⟨tg8 209 (by decide +kernel) rfl, tg8 210 (by decide +kernel) rfl⟩, fun h => absurd h (by decide), fun h => absurd h (by decide), by decide +kernel, by decide +kernel, by decide⟩
theorem okM_232 : okM m_232 := ⟨tg8 218 (by decide +kernel) rfl, tg1 13 (by decide +kernel) rfl, fun h => absurd h (by decide), fun _ => tg8 217 (by decide +kernel) rfl, fun h => absurd h (by decide), by decide +kernel, by decide +kernel, by decide⟩
theorem okM_233 : okM m_233 := ⟨tg8 215 (by decide +kernel) rfl, tg1 13 (by decide +kernel) rfl, fun _ => ⟨tg8 213 (by decide +kernel) rfl, tg8 214 (by decide +kernel) rfl⟩, fun h => absurd h (by decide), fun h => absurd h (by decide), by decide +kernel, by decide +kernel, by decide⟩
theorem okM_234 : okM m_234 := ⟨tg8 226 (by decide +kernel) rfl, tg1 13 (by decide +kernel) rfl, fun _ => ⟨tg8 225 (by decide +kernel) rfl, tgs 102 (by decide +kernel) rfl⟩, fun h => absurd h (by decide), fun h => absurd h (by decide), by decide +kernel, by decide +kernel, by decide⟩
theorem okM_235 : okM m_235 := ⟨tg8 222 (by decide +kernel) rfl, tg1 13 (by decide +kernel) rfl, fun _ => ⟨tg8 220 (by decide +kernel) rfl, tg8 221 (by decide +kernel) rfl⟩, fun h => absurd h (by decide), fun h => absurd h (by decide), by decide +kernel, by decide +kernel, by decide⟩
theorem okM_236 : okM m_236 := ⟨tg8 230 (by decide +kernel) rfl, tg1 13 (by decide +kernel) rfl, fun _ => ⟨tg8 228 (by decide +kernel) rfl, tg8 229 (by decide +kernel) rfl⟩, fun h => absurd h (by decide), fun h => absurd h (by decide), by decide +kernel, by decide +kernel, by decide⟩
theorem okM_237 : okM m_237 := ⟨tg8 234 (by decide +kernel) rfl, tg1 13 (by decide +kernel) rfl, fun _ => ⟨tg8 232 (by decide +kernel) rfl, tg8 233 (by decide +kernel) rfl⟩, fun h => absurd h (by decide), fun h => absurd h (by decide), by decide +kernel, by decide +kernel, by decide⟩
theorem okM_238 : okM m_238 := ⟨tg9 2 (by decide +kernel) rfl, tg1 13 (by decide +kernel) rfl, fun _ => ⟨tg9 0 (by decide +kernel) rfl, tg9 1 (by decide +kernel) rfl⟩, fun h => absurd h (by decide), fun h => absurd h (by decide), by decide +kernel, by decide +kernel, by decide⟩
theorem okM_239 : okM m_239 := ⟨tg9 10 (by decide +kernel) rfl, tg1 13 (by decide +kernel) rfl, fun _ => ⟨tg9 9 (by decide +kernel) rfl, tgs 104 (by decide +kernel) rfl⟩, fun h => absurd h (by decide), fun h => absurd h (by decide), by decide +kernel, by decide +kernel, by decide⟩
theorem okM_240 : okM m_240 := ⟨tg9 6 (by decide +kernel) rfl, tg1 13 (by decide +kernel) rfl, fun _ => ⟨tg9 4 (by decide +kernel) rfl, tg9 5 (by decide +kernel) rfl⟩, fun h => absurd h (by decide), fun h => absurd h (by decide), by decide +kernel, by decide +kernel, by decide⟩
theorem okM_241 : okM m_241 := ⟨tg9 14 (by decide +kernel) rfl, tg1 13 (by decide +kernel) rfl, fun _ => ⟨tg9 12 (by decide +kernel) rfl, tg9 13 (by decide +kernel) rfl⟩, fun h => absurd h (by decide), fun h => absurd h (by decide), by decide +kernel, by decide +kernel, by decide⟩
theorem okM_242 : okM m_242 := ⟨tg9 18 (by decide +kernel) rfl, tg1 13 (by decide +kernel) rfl, fun _ => ⟨tg9 16 (by decide +kernel) rfl, tg9 17 (by decide +kernel) rfl⟩, fun h => absurd h (by decide), fun h => absurd h (by decide), by decide +kernel, by decide +kernel, by decide⟩
theorem okM_243 : okM m_243 := ⟨tg9 33 (by decide +kernel) rfl, tg1 13 (by decide +kernel) rfl, fun _ => ⟨tg9 32 (by decide +kernel) rfl, tgs 106 (by decide +kernel) rfl⟩, fun h => absurd h (by decide), fun h => absurd h (by decide), by decide +kernel, by decide +kernel, by decide⟩
theorem okM_244 : okM m_244 := ⟨tg9 37 (by decide +kernel) rfl, tg1 13 (by decide +kernel) rfl, fun _ => ⟨tg9 36 (by decide +kernel) rfl, tgs 107 (by decide +kernel) rfl⟩, fun h => absurd h (by decide), fun h => absurd h (by decide), by decide +kernel, by decide +kernel, by decide⟩
theorem okM_245 : okM m_245 := ⟨tg9 29 (by decide +kernel) rfl, tg1 13 (by decide +kernel) rfl, fun _ => ⟨tg9 28 (by decide +kernel) rfl, tgs 105 (by decide +kernel) rfl⟩, fun h => absurd h (by decide), fun h => absurd h (by decide), by decide +kernel, by decide +kernel, by decide⟩
theorem okM_246 : okM m_246 := ⟨tg9 25 (by decide +kernel) rfl, tg1 13 (by decide +kernel) rfl, fun _ => ⟨tg9 23 (by decide +kernel) rfl, tg9 24 (by decide +kernel) rfl⟩, fun h => absurd h (by decide), fun h => absurd h (by decide), by decide +kernel, by decide +kernel, by decide⟩
theorem okM_247 : okM m_247 := ⟨tg9 45 (by decide +kernel) rfl, tg1 13 (by decide +kernel) rfl, fun _ => ⟨tg9 44 (by decide +kernel) rfl, tgs 108 (by decide +kernel) rfl⟩, fun h => absurd h (by decide), fun h => absurd h (by decide), by decide +kernel, by decide +kernel, by decide⟩
theorem okM_248 : okM m_248 := ⟨tg9 41 (by decide +kernel) rfl, tg1 13 (by decide +kernel) rfl, fun _ => ⟨tg9 39 (by decide +kernel) rfl, tg9 40 (by decide +kernel) rfl⟩, fun h => absurd h (by decide), fun h => absurd h (by decide), by decide +kernel, by decide +kernel, by decide⟩
theorem okM_249 : okM m_249 := ⟨tg9 49 (by decide +kernel) rfl, tg1 13 (by decide +kernel) rfl, fun _ => ⟨tg9 47 (by decide +kernel) rfl, tg9 48 (by decide +kernel) rfl⟩, fun h => absurd h (by decide), fun h => absurd h (by decide), by decide +kernel, by decide +kernel, by decide⟩
theorem okM_250 : okM m_250 := ⟨tg9 53 (by decide +kernel) rfl, tg1 13 (by decide +kernel) rfl, fun _ => ⟨tg9 51 (by decide +kernel) rfl, tg9 52 (by decide +kernel) rfl⟩, fun h => absurd h (by decide), fun h => absurd h (by decide), by decide +kernel, by decide +kernel, by decide⟩
theorem okM_251 : okM m_251 := ⟨tg9 57 (by decide +kernel) rfl, tg1 13 (by decide +kernel) rfl, fun _ => ⟨tg9 55 (by decide +kernel) rfl, tg9 56 (by decide +kernel) rfl⟩, fun h => absurd h (by decide), fun h => absurd h (by decide), by decide +kernel, by decide +kernel, by decide⟩
theorem okM_252 : okM m_252 := ⟨tg9 65 (by decide +kernel) rfl, tg1 13 (by decide +kernel) rfl, fun _ => ⟨tg9 64 (by decide +kernel) rfl, tgs 109 (by decide +kernel) rfl⟩, fun h => absurd h (by decide), fun h => absurd h (by decide), by decide +kernel, by decide +kernel, by decide⟩
theorem okM_253 : okM m_253 := ⟨tg9 61 (by decide +kernel) rfl, tg1 13 (by decide +kernel) rfl, fun _ => ⟨tg9 59 (by decide +kernel) rfl, tg9 60 (by decide +kernel) rfl⟩, fun h => absurd h (by decide), fun h => absurd h (by decide), by decide +kernel, by decide +kernel, by decide⟩
theorem okM_254 : okM m_254 := ⟨tg9 69 (by decide +kernel) rfl, tg1 13 (by decide +kernel) rfl, fun _ => ⟨tg9 67 (by decide +kernel) rfl, tg9 68 (by decide +kernel) rfl⟩, fun h => absurd h (by decide), fun h => absurd h (by decide), by decide +kernel, by decide +kernel, by decide⟩
theorem okM_255 : okM m_255 := ⟨tg9 73 (by decide +kernel) rfl, tg1 13 (by decide +kernel) rfl, fun _ => ⟨tg9 71 (by decide +kernel) rfl, tg9 72 (by decide +kernel) rfl⟩, fun h => absurd h (by decide), fun h => absurd h (by decide), by decide +kernel, by decide +kernel, by decide⟩
theorem okM_256 : okM m_256 := ⟨tg9 77 (by decide +kernel) rfl, tg1 13 (by decide +kernel) rfl, fun _ => ⟨tg9 75 (by decide +kernel) rfl, tg9 76 (by decide +kernel) rfl⟩, fun h => absurd h (by decide), fun h => absurd h (by decide), by decide +kernel, by decide +kernel, by decide⟩
theorem okM_257 : okM m_257 := ⟨tg9 81 (by decide +kernel) rfl, tg1 13 (by decide +kernel) rfl, fun _ => ⟨tg9 79 (by decide +kernel) rfl, tg9 80 (by decide +kernel) rfl⟩, fun h => absurd h (by decide), fun h => absurd h (by decide), by decide +kernel, by decide +kernel, by decide⟩
theorem okM_258 : okM m_258 := ⟨tg9 89 (by decide +kernel) rfl, tg1 13 (by decide +kernel) rfl, fun _ => ⟨tg9 88 (by decide +kernel) rfl, tgs 110 (by decide +kernel) rfl⟩, fun h => absurd h (by decide), fun h => absurd h (by decide), by decide +kernel, by decide +kernel, by decide⟩
theorem okM_259 : okM m_259 := ⟨tg9 85 (by decide +kernel) rfl, tg1 13 (by decide +kernel) rfl, fun _ => ⟨tg9 83 (by decide +kernel) rfl, tg9 84 (by decide +kernel) rfl⟩, fun h => absurd h (by decide), fun h => absurd h (by decide), by decide +kernel, by decide +kernel, by decide⟩
theorem okM_260 : okM m_260 := ⟨tg9 93 (by decide +kernel) rfl, tg1 13 (by decide +kernel) rfl, fun _ => ⟨tg9 91 (by decide +kernel) rfl, tg9 92 (by decide +kernel) rfl⟩, fun h => absurd h (by decide), fun h => absurd h (by decide), by decide +kernel, by decide +kernel, by decide⟩
theorem okM_261 : okM m_261 := ⟨tg9 108 (by decide +kernel) rfl, tg1 13 (by decide +kernel) rfl, fun _ => ⟨tg9 107 (by decide +kernel) rfl, tgs 112 (by decide +kernel) rfl⟩, fun h => absurd h (by decide), fun h => absurd h (by decide), by decide +kernel, by decide +kernel, by decide⟩
theorem okM_262 : okM m_262 := ⟨tg9 104 (by decide +kernel) rfl, tg1 13 (by decide +kernel) rfl, fun _ => ⟨tg9 103 (by decide +kernel) rfl, tgs 111 (by decide +kernel) rfl⟩, fun h => absurd h (by decide), fun h => absurd h (by decide), by decide +kernel, by decide +kernel, by decide⟩
theorem okM_263 : okM m_263 := ⟨tg9 100 (by decide +kernel) rfl, tg1 13 (by decide +kernel) rfl, fun _ => ⟨tg9 98 (by decide +kernel) rfl, tg9 99 (by decide +kernel) rfl⟩, fun h => absurd h (by decide), fun h => absurd h (by decide), by decide +kernel, by decide +kernel, by decide⟩
theorem okM_264 : okM m_264 := ⟨tg9 112 (by decide +kernel) rfl, tg1 13 (by decide +kernel) rfl, fun _ => ⟨tg9 110 (by decide +kernel) rfl, tg9 111 (by decide +kernel) rfl⟩, fun h => absurd h (by decide), fun h => absurd h (by decide), by decide +kernel, by decide +kernel, by decide⟩
theorem okM_265 : okM m_265 := ⟨tg9 117 (by decide +kernel) rfl, tg1 13 (by decide +kernel) rfl, fun _ => ⟨tg9 115 (by decide +kernel) rfl, tg9 116 (by decide +kernel) rfl⟩, fun h => absurd h (by decide), fun h => absurd h (by decide), by decide +kernel, by decide +kernel, by decide⟩
theorem okM_266 : okM m_266 := ⟨tg9 121 (by decide +kernel) rfl, tg1 13 (by decide +kernel) rfl, fun _ => ⟨tg9 119 (by decide +kernel) rfl, tg9 120 (by decide +kernel) rfl⟩, fun h => absurd h (by decide), fun h => absurd h (by decide), by decide +kernel, by decide +kernel, by decide⟩
def MT_0 : List dM := [m_0, m_1, m_2, m_3, m_4, m_5, m_6, m_7, m_8, m_9, m_10, m_11, m_12, m_13, m_14, m_15, m_16, m_17, m_18, m_19, m_20, m_21, m_22, m_23, m_24, m_25, m_26, m_27, m_28, m_29, m_30, m_31, m_32, m_33, m_34, m_35, m_36, m_37, m_38, m_39]
theorem MT_0_ok : ∀ q ∈ MT_0, okM q := List.forall_mem_cons.mpr ⟨okM_0, List.forall_mem_cons.mpr ⟨okM_1, List.forall_mem_cons.mpr ⟨okM_2, List.forall_mem_cons.mpr ⟨okM_3, List.forall_mem_cons.mpr ⟨okM_4, List.forall_mem_cons.mpr ⟨okM_5, List.forall_mem_cons.mpr ⟨okM_6, List.forall_mem_cons.mpr ⟨okM_7, List.forall_mem_cons.mpr ⟨okM_8, List.forall_mem_cons.mpr ⟨okM_9, List.forall_mem_cons.mpr ⟨okM_10, List.forall_mem_cons.mpr ⟨okM_11, List.forall_mem_cons.mpr ⟨okM_12, List.forall_mem_cons.mpr ⟨okM_13, List.forall_mem_cons.mpr ⟨okM_14, List.forall_mem_cons.mpr ⟨okM_15, List.forall_mem_cons.mpr ⟨okM_16, List.forall_mem_cons.mpr ⟨okM_17, List.forall_mem_cons.mpr ⟨okM_18, List.forall_mem_cons.mpr ⟨okM_19, List.forall_mem_cons.mpr ⟨okM_20, List.forall_mem_cons.mpr ⟨okM_21, List.forall_mem_cons.mpr ⟨okM_22, List.forall_mem_cons.mpr ⟨okM_23, List.forall_mem_cons.mpr ⟨okM_24, List.forall_mem_cons.mpr ⟨okM_25, List.forall_mem_cons.mpr ⟨okM_26, List.forall_mem_cons.mpr ⟨okM_27, List.forall_mem_cons.mpr ⟨okM_28, List.forall_mem_cons.mpr ⟨okM_29, List.forall_mem_cons.mpr ⟨okM_30, List.forall_mem_cons.mpr ⟨okM_31, List.forall_mem_cons.mpr ⟨okM_32, List.forall_mem_cons.mpr ⟨okM_33, List.forall_mem_cons.mpr ⟨okM_34, List.forall_mem_cons.mpr ⟨okM_35, List.forall_mem_cons.mpr ⟨okM_36, List.forall_mem_cons.mpr ⟨okM_37, List.forall_mem_cons.mpr ⟨okM_38, List.forall_mem_cons.mpr ⟨okM_39, fun _ h => absurd h List.not_mem_nil⟩⟩⟩⟩⟩⟩⟩⟩⟩⟩⟩⟩⟩⟩⟩⟩⟩⟩⟩⟩⟩⟩⟩⟩⟩⟩⟩⟩⟩⟩⟩⟩⟩⟩⟩⟩⟩⟩⟩⟩
def MT_1 : List dM := [m_40, m_41, m_42, m_43, m_44, m_45, m_46, m_47, m_48, m_49, m_50, m_51, m_52, m_53, m_54, m_55, m_56, m_57, m_58, m_59, m_60, m_61, m_62, m_63, m_64, m_65, m_66, m_67, m_68, m_69, m_70, m_71, m_72, m_73, m_74, m_75, m_76, m_77, m_78, m_79]
theorem MT_1_ok : ∀ q ∈ MT_1, okM q := List.forall_mem_cons.mpr ⟨okM_40, List.forall_mem_cons.mpr ⟨okM_41, List.forall_mem_cons.mpr ⟨okM_42, List.forall_mem_cons.mpr ⟨okM_43, List.forall_mem_cons.mpr ⟨okM_44, List.forall_mem_cons.mpr ⟨okM_45, List.forall_mem_cons.mpr ⟨okM_46, List.forall_mem_cons.mpr ⟨okM_47, List.forall_mem_cons.mpr ⟨okM_48, List.forall_mem_cons.mpr ⟨okM_49, List.forall_mem_cons.mpr ⟨okM_50, List.forall_mem_cons.mpr ⟨okM_51, List.forall_mem_cons.mpr ⟨okM_52, List.forall_mem_cons.mpr ⟨okM_53, List.forall_mem_cons.mpr ⟨okM_54, List.forall_mem_cons.mpr ⟨okM_55, List.forall_mem_cons.mpr ⟨okM_56, List.forall_mem_cons.mpr ⟨okM_57, List.forall_mem_cons.mpr ⟨okM_58, List.forall_mem_cons.mpr ⟨okM_59, List.forall_mem_cons.mpr ⟨okM_60, List.forall_mem_cons.mpr ⟨okM_61, List.forall_mem_cons.mpr ⟨okM_62, List.forall_mem_cons.mpr ⟨okM_63, List.forall_mem_cons.mpr ⟨okM_64, List.forall_mem_cons.mpr ⟨okM_65, List.forall_mem_cons.mpr ⟨okM_66, List.forall_mem_cons.mpr ⟨okM_67, List.forall_mem_cons.mpr ⟨okM_68, List.forall_mem_cons.mpr ⟨okM_69, List.forall_mem_cons.mpr ⟨okM_70, List.forall_mem_cons.mpr ⟨okM_71, List.forall_mem_cons.mpr ⟨okM_72, List.forall_mem_cons.mpr ⟨okM_73, List.forall_mem_cons.mpr ⟨okM_74, List.forall_mem_cons.mpr ⟨okM_75, List.forall_mem_cons.mpr ⟨okM_76, List.forall_mem_cons.mpr ⟨okM_77, List.forall_mem_cons.mpr ⟨okM_78, List.forall_mem_cons.mpr ⟨okM_79, fun _ h => absurd h List.not_mem_nil⟩⟩⟩⟩⟩⟩⟩⟩⟩⟩⟩⟩⟩⟩⟩⟩⟩⟩⟩⟩⟩⟩⟩⟩⟩⟩⟩⟩⟩⟩⟩⟩⟩⟩⟩⟩⟩⟩⟩⟩
def MT_2 : List dM := [m_80, m_81, m_82, m_83, m_84, m_85, m_86, m_87, m_88, m_89, m_90, m_91, m_92, m_93, m_94, m_95, m_96, m_97, m_98, m_99, m_100, m_101, m_102, m_103, m_104, m_105, m_106, m_107, m_108, m_109, m_110, m_111, m_112, m_113, m_114, m_115, m_116, m_117, m_118, m_119]
theorem MT_2_ok : ∀ q ∈ MT_2, okM q := List.forall_mem_cons.mpr ⟨okM_80, List.forall_mem_cons.mpr ⟨okM_81, List.forall_mem_cons.mpr ⟨okM_82, List.forall_mem_cons.mpr ⟨okM_83, List.forall_mem_cons.mpr ⟨okM_84, List.forall_mem_cons.mpr ⟨okM_85, List.forall_mem_cons.mpr ⟨okM_86, List.forall_mem_cons.mpr ⟨okM_87, List.forall_mem_cons.mpr ⟨okM_88, List.forall_mem_cons.mpr ⟨okM_89, List.forall_mem_cons.mpr ⟨okM_90, List.forall_mem_cons.mpr ⟨okM_91, List.forall_mem_cons.mpr ⟨okM_92, List.forall_mem_cons.mpr ⟨okM_93, List.forall_mem_cons.mpr ⟨okM_94, List.forall_mem_cons.mpr ⟨okM_95, List.forall_mem_cons.mpr ⟨okM_96, List.forall_mem_cons.mpr ⟨okM_97, List.forall_mem_cons.mpr ⟨okM_98, List.forall_mem_cons.mpr ⟨okM_99, List.forall_mem_cons.mpr ⟨okM_100, List.forall_mem_cons.mpr ⟨okM_101, List.forall_mem_cons.mpr ⟨okM_102, List.forall_mem_cons.mpr ⟨okM_103, List.forall_mem_cons.mpr ⟨okM_104, List.forall_mem_cons.mpr ⟨okM_105, List.forall_mem_cons.mpr ⟨okM_106, List.forall_mem_cons.mpr ⟨okM_107, List.forall_mem_cons.mpr ⟨okM_108, List.forall_mem_cons.mpr ⟨okM_109, List.forall_mem_cons.mpr ⟨okM_110, List.forall_mem_cons.mpr ⟨okM_111, List.forall_mem_cons.mpr ⟨okM_112, List.forall_mem_cons.mpr ⟨okM_113, List.forall_mem_cons.mpr ⟨okM_114, List.forall_mem_cons.mpr ⟨okM_115, List.forall_mem_cons.mpr ⟨okM_116, List.forall_mem_cons.mpr ⟨okM_117, List.forall_mem_cons.mpr ⟨okM_118, List.forall_mem_cons.mpr ⟨okM_119, fun _ h => absurd h List.not_mem_nil⟩⟩⟩⟩⟩⟩⟩⟩⟩⟩⟩⟩⟩⟩⟩⟩⟩⟩⟩⟩⟩⟩⟩⟩⟩⟩⟩⟩⟩⟩⟩⟩⟩⟩⟩⟩⟩⟩⟩⟩
def MT_3 : List dM := [m_120, m_121, m_122, m_123, m_124, m_125, m_126, m_127, m_128, m_129, m_130, m_131, m_132, m_133, m_134, m_135, m_136, m_137, m_138, m_139, m_140, m_141, m_142, m_143, m_144, m_145, m_146, m_147, m_148, m_149, m_150, m_151, m_152, m_153, m_154, m_155, m_156, m_157, m_158, m_159]
theorem MT_3_ok : ∀ q ∈ MT_3, okM q := List.forall_mem_cons.mpr ⟨okM_120, List.forall_mem_cons.mpr ⟨okM_121, List.forall_mem_cons.mpr ⟨okM_122, List.forall_mem_cons.mpr ⟨okM_123, List.forall_mem_cons.mpr ⟨okM_124, List.forall_mem_cons.mpr ⟨okM_125, List.forall_mem_cons.mpr ⟨okM_126, List.forall_mem_cons.mpr ⟨okM_127, List.forall_mem_cons.mpr ⟨okM_128, List.forall_mem_cons.mpr ⟨okM_129, List.forall_mem_cons.mpr ⟨okM_130, List.forall_mem_cons.mpr ⟨okM_131, List.forall_mem_cons.mpr ⟨okM_132, List.forall_mem_cons.mpr ⟨okM_133, List.forall_mem_cons.mpr ⟨okM_134, List.forall_mem_cons.mpr ⟨okM_135, List.forall_mem_cons.mpr ⟨okM_136, List.forall_mem_cons.mpr ⟨okM_137, List.forall_mem_cons.mpr ⟨okM_138, List.forall_mem_cons.mpr ⟨okM_139, List.forall_mem_cons.mpr ⟨okM_140, List.forall_mem_cons.mpr ⟨okM_141, List.forall_mem_cons.mpr ⟨okM_142, List.forall_mem_cons.mpr ⟨okM_143, List.forall_mem_cons.mpr ⟨okM_144, List.forall_mem_cons.mpr ⟨okM_145, List.forall_mem_cons.mpr ⟨okM_146, List.forall_mem_cons.mpr ⟨okM_147, List.forall_mem_cons.mpr ⟨okM_148, List.forall_mem_cons.mpr ⟨okM_149, List.forall_mem_cons.mpr ⟨okM_150, List.forall_mem_cons.mpr ⟨okM_151, List.forall_mem_cons.mpr ⟨okM_152, List.forall_mem_cons.mpr ⟨okM_153, List.forall_mem_cons.mpr ⟨okM_154, List.forall_mem_cons.mpr ⟨okM_155, List.forall_mem_cons.mpr ⟨okM_156, List.forall_mem_cons.mpr ⟨okM_157, List.forall_mem_cons.mpr ⟨okM_158, List.forall_mem_cons.mpr ⟨okM_159, fun _ h => absurd h List.not_mem_nil⟩⟩⟩⟩⟩⟩⟩⟩⟩⟩⟩⟩⟩⟩⟩⟩⟩⟩⟩⟩⟩⟩⟩⟩⟩⟩⟩⟩⟩⟩⟩⟩⟩⟩⟩⟩⟩⟩⟩⟩
def MT_4 : List dM := [m_160, m_161, m_162, m_163, m_164, m_165, m_166, m_167, m_168, m_169, m_170, m_171, m_172, m_173, m_174, m_175, m_176, m_177, m_178, m_179, m_180, m_181, m_182, m_183, m_184, m_185, m_186, m_187, m_188, m_189, m_190, m_191, m_192, m_193, m_194, m_195, m_196, m_197, m_198, m_199]
theorem MT_4_ok : ∀ q ∈ MT_4, okM q := List.forall_mem_cons.mpr ⟨okM_160, List.forall_mem_cons.mpr ⟨okM_161, List.forall_mem_cons.mpr ⟨okM_162, List.forall_mem_cons.mpr ⟨okM_163, List.forall_mem_cons.mpr ⟨okM_164, List.forall_mem_cons.mpr ⟨okM_165, List.forall_mem_cons.mpr ⟨okM_166, List.forall_mem_cons.mpr ⟨okM_167, List.forall_mem_cons.mpr ⟨okM_168, List.forall_mem_cons.mpr ⟨okM_169, List.forall_mem_cons.mpr ⟨okM_170, List.forall_mem_cons.mpr ⟨okM_171, List.forall_mem_cons.mpr ⟨okM_172, List.forall_mem_cons.mpr ⟨okM_173, List.forall_mem_cons.mpr ⟨okM_174, List.forall_mem_cons.mpr ⟨okM_175, List.forall_mem_cons.mpr ⟨okM_176, List.forall_mem_cons.mpr ⟨okM_177, List.forall_mem_cons.mpr ⟨okM_178, List.forall_mem_cons.mpr ⟨okM_179, List.forall_mem_cons.mpr ⟨okM_180, List.forall_mem_cons.mpr ⟨okM_181, List.forall_mem_cons.mpr ⟨okM_182, List.forall_mem_cons.mpr ⟨okM_183, List.forall_mem_cons.mpr ⟨okM_184, List.forall_mem_cons.mpr ⟨okM_185, List.forall_mem_cons.mpr ⟨okM_186, List.forall_mem_cons.mpr ⟨okM_187, List.forall_mem_cons.mpr ⟨okM_188, List.forall_mem_cons.mpr ⟨okM_189, List.forall_mem_cons.mpr ⟨okM_190, List.forall_mem_cons.mpr ⟨okM_191, List.forall_mem_cons.mpr ⟨okM_192, List.forall_mem_cons.mpr ⟨okM_193, List.forall_mem_cons.mpr ⟨okM_194, List.forall_mem_cons.mpr ⟨okM_195, List.forall_mem_cons.mpr ⟨okM_196, List.forall_mem_cons.mpr ⟨okM_197, List.forall_mem_cons.mpr ⟨okM_198, List.forall_mem_cons.mpr ⟨okM_199, fun _ h => absurd h List.not_mem_nil⟩⟩⟩⟩⟩⟩⟩⟩⟩⟩⟩⟩⟩⟩⟩⟩⟩⟩⟩⟩⟩⟩⟩⟩⟩⟩⟩⟩⟩⟩⟩⟩⟩⟩⟩⟩⟩⟩⟩⟩
def MT_5 : List dM := [m_200, m_201, m_202, m_203, m_204, m_205, m_206, m_207, m_208, m_209, m_210, m_211, m_212, m_213, m_214, m_215, m_216, m_217, m_218, m_219, m_220, m_221, m_222, m_223, m_224, m_225, m_226, m_227, m_228, m_229, m_230, m_231, m_232, m_233, m_234, m_235, m_236, m_237, m_238, m_239]
theorem MT_5_ok : ∀ q ∈ MT_5, okM q := List.forall_mem_cons.mpr ⟨okM_200, List.forall_mem_cons.mpr ⟨okM_201, List.forall_mem_cons.mpr ⟨okM_202, List.forall_mem_cons.mpr ⟨okM_203, List.forall_mem_cons.mpr ⟨okM_204, List.forall_mem_cons.mpr ⟨okM_205, List.forall_mem_cons.mpr ⟨okM_206, List.forall_mem_cons.mpr ⟨okM_207, List.forall_mem_cons.mpr ⟨okM_208, List.forall_mem_cons.mpr ⟨okM_209, List.forall_mem_cons.mpr ⟨okM_210, List.forall_mem_cons.mpr ⟨okM_211, List.forall_mem_cons.mpr ⟨okM_212, List.forall_mem_cons.mpr ⟨okM_213, List.forall_mem_cons.mpr ⟨okM_214, List.forall_mem_cons.mpr ⟨okM_215, List.forall_mem_cons.mpr ⟨okM_216, List.forall_mem_cons.mpr ⟨okM_217, List.forall_mem_cons.mpr ⟨okM_218, List.forall_mem_cons.mpr ⟨okM_219, List.forall_mem_cons.mpr ⟨okM_220, List.forall_mem_cons.mpr ⟨okM_221, List.forall_mem_cons.mpr ⟨okM_222, List.forall_mem_cons.mpr ⟨okM_223, List.forall_mem_cons.mpr ⟨okM_224, List.forall_mem_cons.mpr ⟨okM_225, List.forall_mem_cons.mpr ⟨okM_226, List.forall_mem_cons.mpr ⟨okM_227, List.forall_mem_cons.mpr ⟨okM_228, List.forall_mem_cons.mpr ⟨okM_229, List.forall_mem_cons.mpr ⟨okM_230, List.forall_mem_cons.mpr ⟨okM_231, List.forall_mem_cons.mpr ⟨okM_232, List.forall_mem_cons.mpr ⟨okM_233, List.forall_mem_cons.mpr ⟨okM_234, List.forall_mem_cons.mpr ⟨okM_235, List.forall_mem_cons.mpr ⟨okM_236, List.forall_mem_cons.mpr ⟨okM_237, List.forall_mem_cons.mpr ⟨okM_238, List.forall_mem_cons.mpr ⟨okM_239, fun _ h => absurd h List.not_mem_nil⟩⟩⟩⟩⟩⟩⟩⟩⟩⟩⟩⟩⟩⟩⟩⟩⟩⟩⟩⟩⟩⟩⟩⟩⟩⟩⟩⟩⟩⟩⟩⟩⟩⟩⟩⟩⟩⟩⟩⟩
def MT_6 : List dM := [m_240, m_241, m_242, m_243, m_244, m_245, m_246, m_247, m_248, m_249, m_250, m_251, m_252, m_253, m_254, m_255, m_256, m_257, m_258, m_259, m_260, m_261, m_262, m_263, m_264, m_265, m_266]
theorem MT_6_ok : ∀ q ∈ MT_6, okM q := List.forall_mem_cons.mpr ⟨okM_240, List.forall_mem_cons.mpr ⟨okM_241, List.forall_mem_cons.mpr ⟨okM_242, List.forall_mem_cons.mpr ⟨okM_243, List.forall_mem_cons.mpr ⟨okM_244, List.forall_mem_cons.mpr ⟨okM_245, List.forall_mem_cons.mpr ⟨okM_246, List.forall_mem_cons.mpr ⟨okM_247, List.forall_mem_cons.mpr ⟨okM_248, List.forall_mem_cons.mpr ⟨okM_249, List.forall_mem_cons.mpr ⟨okM_250, List.forall_mem_cons.mpr ⟨okM_251, List.forall_mem_cons.mpr ⟨okM_252, List.forall_mem_cons.mpr ⟨okM_253, List.forall_mem_cons.mpr ⟨okM_254, List.forall_mem_cons.mpr ⟨okM_255, List.forall_mem_cons.mpr ⟨okM_256, List.forall_mem_cons.mpr ⟨okM_257, List.forall_mem_cons.mpr ⟨okM_258, List.forall_mem_cons.mpr ⟨okM_259, List.forall_mem_cons.mpr ⟨okM_260, List.forall_mem_cons.mpr ⟨okM_261, List.forall_mem_cons.mpr ⟨okM_262, List.forall_mem_cons.mpr ⟨okM_263, List.forall_mem_cons.mpr ⟨okM_264, List.forall_mem_cons.mpr ⟨okM_265, List.forall_mem_cons.mpr ⟨okM_266, fun _ h => absurd h List.not_mem_nil⟩⟩⟩⟩⟩⟩⟩⟩⟩⟩⟩⟩⟩⟩⟩⟩⟩⟩⟩⟩⟩⟩⟩⟩⟩⟩⟩
def MT : List dM := MT_0 ++ (MT_1 ++ (MT_2 ++ (MT_3 ++ (MT_4 ++ (MT_5 ++ (MT_6))))))
theorem MT_ok : ∀ q ∈ MT, okM q := List.forall_mem_append.mpr ⟨MT_0_ok, List.forall_mem_append.mpr ⟨MT_1_ok, List.forall_mem_append.mpr ⟨MT_2_ok, List.forall_mem_append.mpr ⟨MT_3_ok, List.forall_mem_append.mpr ⟨MT_4_ok, List.forall_mem_append.mpr ⟨MT_5_ok, MT_6_ok⟩⟩⟩⟩⟩⟩
/-- a cell of the world: an array (its length; 0 ints, 1 booleans, 2 longs), or an object (its class, its fields: 0 an int, 1 a long, t + 2 the cell t) -/
abbrev dSh : Type := (Nat × Nat) ⊕ (Nat × List Nat)
def shp : Nat → Option dSh := fun k => match k with
  | 0 => some (.inr (11, [3, 0, 0, 5, 7, 35, 63, 70, 71, 91, 0, 111, 116, 135, 144, 149, 151, 0, 153]))
  | 1 => some (.inr (6, [4]))
  | 2 => some (.inl (700, 0))
  | 3 => some (.inr (6, [6]))
  | 4 => some (.inl (3, 0))
  | 5 => some (.inr (1, [0, 0, 0, 0, 0, 8, 10, 12, 14, 16, 18, 20, 22, 24, 26, 28]))
  | 6 => some (.inr (6, [9]))
  | 7 => some (.inl (10, 0))
  | 8 => some (.inr (6, [11]))
  | 9 => some (.inl (100, 0))
  | 10 => some (.inr (6, [13]))
  | 11 => some (.inl (5, 0))
  | 12 => some (.inr (6, [15]))
  | 13 => some (.inl (5, 0))
  | 14 => some (.inr (6, [17]))
  | 15 => some (.inl (5, 0))
  | 16 => some (.inr (6, [19]))
  | 17 => some (.inl (40, 0))
  | 18 => some (.inr (6, [21]))
  | 19 => some (.inl (8, 0))
  | 20 => some (.inr (6, [23]))
  | 21 => some (.inl (8, 0))
  | 22 => some (.inr (6, [25]))
  | 23 => some (.inl (8, 0))
  | 24 => some (.inr (6, [27]))
  | 25 => some (.inl (8, 0))
  | 26 => some (.inr (7, [0, 0, 29, 31, 33]))
  | 27 => some (.inr (6, [30]))
  | 28 => some (.inl (700, 0))
  | 29 => some (.inr (6, [32]))
  | 30 => some (.inl (4, 0))
  | 31 => some (.inr (6, [34]))
  | 32 => some (.inl (64, 0))
  | 33 => some (.inr (1, [0, 0, 0, 0, 0, 36, 38, 40, 42, 44, 46, 48, 50, 52, 54, 56]))
  | 34 => some (.inr (6, [37]))
  | 35 => some (.inl (10, 0))
  | 36 => some (.inr (6, [39]))
  | 37 => some (.inl (100, 0))
  | 38 => some (.inr (6, [41]))
  | 39 => some (.inl (5, 0))
  | 40 => some (.inr (6, [43]))
  | 41 => some (.inl (5, 0))
  | 42 => some (.inr (6, [45]))
  | 43 => some (.inl (5, 0))
  | 44 => some (.inr (6, [47]))
  | 45 => some (.inl (40, 0))
  | 46 => some (.inr (6, [49]))
  | 47 => some (.inl (8, 0))
  | 48 => some (.inr (6, [51]))
  | 49 => some (.inl (8, 0))
  | 50 => some (.inr (6, [53]))
  | 51 => some (.inl (8, 0))
  | 52 => some (.inr (6, [55]))
  | 53 => some (.inl (8, 0))
  | 54 => some (.inr (7, [0, 0, 57, 59, 61]))
  | 55 => some (.inr (6, [58]))
  | 56 => some (.inl (700, 0))
  | 57 => some (.inr (6, [60]))
  | 58 => some (.inl (4, 0))
  | 59 => some (.inr (6, [62]))
  | 60 => some (.inl (64, 0))
  | 61 => some (.inr (10, [64, 66, 68, 0]))
  | 62 => some (.inr (6, [65]))
  | 63 => some (.inl (701, 0))
  | 64 => some (.inr (6, [67]))
  | 65 => some (.inl (701, 0))
  | 66 => some (.inr (6, [69]))
  | 67 => some (.inl (701, 0))
  | 68 => some (.inr (4, [63, 35, 0, 0, 0, 0]))
  | 69 => some (.inr (9, [72, 77, 84]))
  | 70 => some (.inr (8, [0, 0, 0, 0, 73, 75]))
  | 71 => some (.inr (6, [74]))
  | 72 => some (.inl (10, 0))
  | 73 => some (.inr (6, [76]))
  | 74 => some (.inl (5, 0))
  | 75 => some (.inr (2, [0, 0, 78, 80, 82]))
  | 76 => some (.inr (6, [79]))
  | 77 => some (.inl (40, 0))
  | 78 => some (.inr (6, [81]))
  | 79 => some (.inl (40, 0))
  | 80 => some (.inr (6, [83]))
  | 81 => some (.inl (40, 0))
  | 82 => some (.inr (2, [0, 0, 85, 87, 89]))
  | 83 => some (.inr (6, [86]))
  | 84 => some (.inl (8, 0))
  | 85 => some (.inr (6, [88]))
  | 86 => some (.inl (8, 0))
  | 87 => some (.inr (6, [90]))
  | 88 => some (.inl (8, 0))
  | 89 => some (.inr (9, [92, 97, 104]))
  | 90 => some (.inr (8, [0, 0, 0, 0, 93, 95]))
  | 91 => some (.inr (6, [94]))
  | 92 => some (.inl (10, 0))
  | 93 => some (.inr (6, [96]))
  | 94 => some (.inl (5, 0))
  | 95 => some (.inr (2, [0, 0, 98, 100, 102]))
  | 96 => some (.inr (6, [99]))
  | 97 => some (.inl (40, 0))
  | 98 => some (.inr (6, [101]))
  | 99 => some (.inl (40, 0))
  | 100 => some (.inr (6, [103]))
  | 101 => some (.inl (40, 0))
  | 102 => some (.inr (2, [0, 0, 105, 107, 109]))
  | 103 => some (.inr (6, [106]))
  | 104 => some (.inl (8, 0))
  | 105 => some (.inr (6, [108]))
  | 106 => some (.inl (8, 0))
  | 107 => some (.inr (6, [110]))
  | 108 => some (.inl (8, 0))
  | 109 => some (.inr (8, [0, 0, 0, 0, 112, 114]))
  | 110 => some (.inr (6, [113]))
  | 111 => some (.inl (10, 0))
  | 112 => some (.inr (6, [115]))
  | 113 => some (.inl (5, 0))
  | 114 => some (.inr (3, [7, 117, 119, 121, 123, 125, 127, 0, 129, 131, 133]))
  | 115 => some (.inr (6, [118]))
  | 116 => some (.inl (40, 0))
  | 117 => some (.inr (6, [120]))
  | 118 => some (.inl (40, 0))
  | 119 => some (.inr (6, [122]))
  | 120 => some (.inl (10, 0))
  | 121 => some (.inr (6, [124]))
  | 122 => some (.inl (5, 0))
  | 123 => some (.inr (6, [126]))
  | 124 => some (.inl (5, 0))
  | 125 => some (.inr (6, [128]))
  | 126 => some (.inl (40, 0))
  | 127 => some (.inr (6, [130]))
  | 128 => some (.inl (5, 0))
  | 129 => some (.inr (6, [132]))
  | 130 => some (.inl (7, 0))
  | 131 => some (.inr (6, [134]))
  | 132 => some (.inl (601, 0))
  | 133 => some (.inr (5, [7, 116, 136, 138, 140, 142]))
  | 134 => some (.inr (6, [137]))
  | 135 => some (.inl (10, 0))
  | 136 => some (.inr (6, [139]))
  | 137 => some (.inl (5, 0))
  | 138 => some (.inr (6, [141]))
  | 139 => some (.inl (160, 0))
  | 140 => some (.inr (6, [143]))
  | 141 => some (.inl (40, 0))
  | 142 => some (.inr (0, [7, 145, 147, 0, 0]))
  | 143 => some (.inr (6, [146]))
  | 144 => some (.inl (100, 0))
  | 145 => some (.inr (6, [148]))
  | 146 => some (.inl (10, 0))
  | 147 => some (.inr (6, [150]))
  | 148 => some (.inl (10, 0))
  | 149 => some (.inr (6, [152]))
  | 150 => some (.inl (10, 0))
  | 151 => some (.inr (6, [154]))
  | 152 => some (.inl (10, 0))
  | 153 => some (.inr (12, [0, 0, 0, 0, 0, 0, 0, 156, 157, 158, 159, 160, 161, 162, 163, 0, 0, 0, 164, 0, 0, 0, 0, 0, 0, 0, 1, 0, 0, 0, 0, 0, 0, 0, 0, 0, 165, 166, 167, 168, 169, 170, 171, 172, 173, 174, 175, 176, 177, 178, 0, 179, 180, 181, 182, 183, 184, 185, 186, 187, 188, 189, 190, 191, 192, 0, 193, 0, 194, 195, 0, 0, 0, 196, 197, 198]))
  | 154 => some (.inl (100, 0))
  | 155 => some (.inl (5, 0))
  | 156 => some (.inl (5, 0))
  | 157 => some (.inl (40, 0))
  | 158 => some (.inl (32, 0))
  | 159 => some (.inl (4, 0))
  | 160 => some (.inl (2800, 0))
  | 161 => some (.inl (700, 0))
  | 162 => some (.inl (3, 0))
  | 163 => some (.inl (10, 0))
  | 164 => some (.inl (100, 0))
  | 165 => some (.inl (5, 0))
  | 166 => some (.inl (5, 0))
  | 167 => some (.inl (5, 0))
  | 168 => some (.inl (40, 0))
  | 169 => some (.inl (32, 0))
  | 170 => some (.inl (4, 0))
  | 171 => some (.inl (2800, 0))
  | 172 => some (.inl (950, 0))
  | 173 => some (.inl (9, 1))
  | 174 => some (.inl (19, 0))
  | 175 => some (.inl (19, 0))
  | 176 => some (.inl (80, 0))
  | 177 => some (.inl (100, 0))
  | 178 => some (.inl (7, 0))
  | 179 => some (.inl (950, 0))
  | 180 => some (.inl (40, 0))
  | 181 => some (.inl (40, 0))
  | 182 => some (.inl (10, 0))
  | 183 => some (.inl (5, 0))
  | 184 => some (.inl (5, 0))
  | 185 => some (.inl (5, 0))
  | 186 => some (.inl (10, 0))
  | 187 => some (.inl (10, 0))
  | 188 => some (.inl (400, 0))
  | 189 => some (.inl (10, 0))
  | 190 => some (.inl (10, 0))
  | 191 => some (.inl (40, 0))
  | 192 => some (.inl (24, 0))
  | 193 => some (.inl (10, 0))
  | 194 => some (.inl (19, 0))
  | 195 => some (.inl (80, 0))
  | 196 => some (.inl (24, 0))
  | 197 => some (.inl (1, 2))
  | _ => none
abbrev dN : Nat := 198
