/-! the program's tables: classes, fields, what the pool entries name; by program out of the Statement -/
def wT : List Cond := lw_tbl.filter goodWord
theorem wT_t {i : Nat} {w : Cond} (h : tables_1[i]? = some w) (g : goodWord w = true) : w ∈ wT := List.mem_filter.mpr ⟨List.mem_append_right _ (List.mem_of_getElem? h), g⟩
theorem wT_p {i : Nat} {w : Cond} (h : (k2_sels lw_privs)[i]? = some w) (g : goodWord w = true) : w ∈ wT := List.mem_filter.mpr ⟨List.mem_append_left _ (List.mem_of_getElem? h), g⟩
def ON : List String := ["PitInspector", "PitInspector$Pits", "PitInspector$Laws", "PitInspector$Text", "PitInspector$Reader", "PitInspector$Net", "PitInspector$Air", "PitInspector$Survey", "PitInspector$Crew", "PitInspector$Warnings", "PitInspector$Looks", "PitInspector$Inquest", "PitInspectorModel", "java/lang/Math", "java/lang/Integer", "java/util/Arrays", "PitInspectorLaw"]
def oN (i : Nat) : String := ON.getD i ""
def cF_0 : u_T := fun k => match k with
  | 0 => ("PitInspector", "minute", "I", false)
  | 1 => ("PitInspector", "tape", "[B", true)
  | 2 => ("PitInspector", "tapeLength", "I", false)
  | 3 => ("PitInspector", "pits", "LPitInspector$Pits;", true)
  | 4 => ("PitInspector", "laws", "LPitInspector$Laws;", true)
  | 5 => ("PitInspector", "net", "LPitInspector$Net;", true)
  | 6 => ("PitInspector", "airs", "LPitInspector$Air;", true)
  | 7 => ("PitInspector", "survey", "LPitInspector$Survey;", true)
  | 8 => ("PitInspector", "crew", "LPitInspector$Crew;", true)
  | 9 => ("PitInspector", "warnings", "LPitInspector$Warnings;", true)
  | 10 => ("PitInspector", "looks", "LPitInspector$Looks;", true)
  | _ => ("PitInspector", "inquest", "LPitInspector$Inquest;", true)
def cT_0 : Nat → FieldType := fun k => match k with
  | 0 => .int
  | 1 => .array .byte
  | 2 => .int
  | 3 => .object "PitInspector$Pits"
  | 4 => .object "PitInspector$Laws"
  | 5 => .object "PitInspector$Net"
  | 6 => .object "PitInspector$Air"
  | 7 => .object "PitInspector$Survey"
  | 8 => .object "PitInspector$Crew"
  | 9 => .object "PitInspector$Warnings"
  | 10 => .object "PitInspector$Looks"
  | _ => .object "PitInspector$Inquest"
def cF_1 : u_T := fun k => match k with
  | 0 => ("PitInspector$Pits", "seam", "[I", true)
  | 1 => ("PitInspector$Pits", "depth", "[I", true)
  | 2 => ("PitInspector$Pits", "gas", "[I", true)
  | 3 => ("PitInspector$Pits", "men", "[I", true)
  | 4 => ("PitInspector$Pits", "book", "[I", true)
  | 5 => ("PitInspector$Pits", "falls", "[I", true)
  | 6 => ("PitInspector$Pits", "count", "I", false)
  | _ => ("PitInspector$Pits", "fallCount", "I", false)
def cT_1 : Nat → FieldType := fun k => match k with
  | 0 => .array .int
  | 1 => .array .int
  | 2 => .array .int
  | 3 => .array .int
  | 4 => .array .int
  | 5 => .array .int
  | 6 => .int
  | _ => .int
def cF_2 : u_T := fun k => match k with
  | 0 => ("PitInspector$Laws", "facts", "[J", true)
  | 1 => ("PitInspector$Laws", "count", "I", false)
  | 2 => ("PitInspector$Laws", "texts", "[LPitInspector$Text;", true)
  | 3 => ("PitInspector$Laws", "spare", "LPitInspector$Text;", false)
  | 4 => ("PitInspector$Laws", "reader", "LPitInspector$Reader;", true)
  | 5 => ("PitInspector$Laws", "letters", "I", false)
  | 6 => ("PitInspector$Laws", "stack", "[J", true)
  | 7 => ("PitInspector$Laws", "broken", "[I", true)
  | _ => ("PitInspector$Laws", "brokenCount", "I", false)
def cT_2 : Nat → FieldType := fun k => match k with
  | 0 => .array .long
  | 1 => .int
  | 2 => .array (.object "PitInspector$Text")
  | 3 => .object "PitInspector$Text"
  | 4 => .object "PitInspector$Reader"
  | 5 => .int
  | 6 => .array .long
  | 7 => .array .int
  | _ => .int
def cF_3 : u_T := fun k => match k with
  | 0 => ("PitInspector$Text", "pit", "I", false)
  | 1 => ("PitInspector$Text", "from", "I", false)
  | 2 => ("PitInspector$Text", "to", "I", false)
  | 3 => ("PitInspector$Text", "length", "I", false)
  | 4 => ("PitInspector$Text", "bytes", "[B", true)
  | 5 => ("PitInspector$Text", "clauses", "I", false)
  | 6 => ("PitInspector$Text", "kind", "[I", true)
  | 7 => ("PitInspector$Text", "number", "[I", true)
  | 8 => ("PitInspector$Text", "struckClause", "[I", true)
  | 9 => ("PitInspector$Text", "byteFrom", "[I", true)
  | 10 => ("PitInspector$Text", "byteTo", "[I", true)
  | 11 => ("PitInspector$Text", "codeFrom", "[I", true)
  | 12 => ("PitInspector$Text", "codeTo", "[I", true)
  | 13 => ("PitInspector$Text", "struck", "I", false)
  | 14 => ("PitInspector$Text", "code", "[I", true)
  | 15 => ("PitInspector$Text", "codeLength", "I", false)
  | _ => ("PitInspector$Text", "letters", "I", false)
def cT_3 : Nat → FieldType := fun k => match k with
  | 0 => .int
  | 1 => .int
  | 2 => .int
  | 3 => .int
  | 4 => .array .byte
  | 5 => .int
  | 6 => .array .int
  | 7 => .array .int
  | 8 => .array .int
  | 9 => .array .int
  | 10 => .array .int
  | 11 => .array .int
  | 12 => .array .int
  | 13 => .int
  | 14 => .array .int
  | 15 => .int
  | _ => .int
def cF_4 : u_T := fun k => match k with
  | 0 => ("PitInspector$Reader", "text", "LPitInspector$Text;", false)
  | 1 => ("PitInspector$Reader", "at", "I", false)
  | 2 => ("PitInspector$Reader", "value", "I", false)
  | _ => ("PitInspector$Reader", "faultCode", "I", false)
def cT_4 : Nat → FieldType := fun k => match k with
  | 0 => .object "PitInspector$Text"
  | 1 => .int
  | 2 => .int
  | _ => .int
def cF_5 : u_T := fun k => match k with
  | 0 => ("PitInspector$Net", "placeCount", "I", false)
  | 1 => ("PitInspector$Net", "roadCount", "I", false)
  | 2 => ("PitInspector$Net", "width", "[I", true)
  | 3 => ("PitInspector$Net", "endPlace", "[I", true)
  | 4 => ("PitInspector$Net", "ends", "[I", true)
  | 5 => ("PitInspector$Net", "firstEnd", "[I", true)
  | 6 => ("PitInspector$Net", "steps", "[I", true)
  | 7 => ("PitInspector$Net", "order", "[I", true)
  | 8 => ("PitInspector$Net", "reached", "I", false)
  | 9 => ("PitInspector$Net", "doors", "[I", true)
  | 10 => ("PitInspector$Net", "placePit", "[I", true)
  | 11 => ("PitInspector$Net", "bank", "[I", true)
  | 12 => ("PitInspector$Net", "flow", "[I", true)
  | 13 => ("PitInspector$Net", "endLeft", "[I", true)
  | _ => ("PitInspector$Net", "fewestKnown", "[I", true)
def cT_5 : Nat → FieldType := fun k => match k with
  | 0 => .int
  | 1 => .int
  | 2 => .array .int
  | 3 => .array .int
  | 4 => .array .int
  | 5 => .array .int
  | 6 => .array .int
  | 7 => .array .int
  | 8 => .int
  | 9 => .array .int
  | 10 => .array .int
  | 11 => .array .int
  | 12 => .array .int
  | 13 => .array .int
  | _ => .array .int
def cF_6 : u_T := fun k => match k with
  | 0 => ("PitInspector$Air", "fanDown", "[I", true)
  | 1 => ("PitInspector$Air", "fanUp", "[I", true)
  | 2 => ("PitInspector$Air", "fanAir", "[I", true)
  | 3 => ("PitInspector$Air", "roadAir", "[I", true)
  | 4 => ("PitInspector$Air", "came", "[I", true)
  | _ => ("PitInspector$Air", "leastKnown", "[I", true)
def cT_6 : Nat → FieldType := fun k => match k with
  | 0 => .array .int
  | 1 => .array .int
  | 2 => .array .int
  | 3 => .array .int
  | 4 => .array .int
  | _ => .array .int
def cF_7 : u_T := fun k => match k with
  | 0 => ("PitInspector$Survey", "planCount", "I", false)
  | 1 => ("PitInspector$Survey", "waterCount", "I", false)
  | 2 => ("PitInspector$Survey", "faceCount", "I", false)
  | 3 => ("PitInspector$Survey", "joinCount", "I", false)
  | 4 => ("PitInspector$Survey", "planError", "[I", true)
  | 5 => ("PitInspector$Survey", "planTurn", "[I", true)
  | 6 => ("PitInspector$Survey", "planX", "[I", true)
  | 7 => ("PitInspector$Survey", "planY", "[I", true)
  | 8 => ("PitInspector$Survey", "pointPlan", "[I", true)
  | 9 => ("PitInspector$Survey", "pointX", "[I", true)
  | 10 => ("PitInspector$Survey", "pointY", "[I", true)
  | 11 => ("PitInspector$Survey", "facePit", "[I", true)
  | _ => ("PitInspector$Survey", "joinError", "[I", true)
def cT_7 : Nat → FieldType := fun k => match k with
  | 0 => .int
  | 1 => .int
  | 2 => .int
  | 3 => .int
  | 4 => .array .int
  | 5 => .array .int
  | 6 => .array .int
  | 7 => .array .int
  | 8 => .array .int
  | 9 => .array .int
  | 10 => .array .int
  | 11 => .array .int
  | _ => .array .int
def cF_8 : u_T := fun k => match k with
  | 0 => ("PitInspector$Crew", "count", "I", false)
  | 1 => ("PitInspector$Crew", "pit", "[I", true)
  | 2 => ("PitInspector$Crew", "duty", "[I", true)
  | 3 => ("PitInspector$Crew", "outing", "[I", true)
  | 4 => ("PitInspector$Crew", "lampCount", "I", false)
  | 5 => ("PitInspector$Crew", "lampLot", "[I", true)
  | 6 => ("PitInspector$Crew", "lampIsOut", "[Z", true)
  | 7 => ("PitInspector$Crew", "outingCount", "I", false)
  | 8 => ("PitInspector$Crew", "outingHand", "[I", true)
  | 9 => ("PitInspector$Crew", "outingLamp", "[I", true)
  | 10 => ("PitInspector$Crew", "outingEnd", "[I", true)
  | 11 => ("PitInspector$Crew", "below", "[I", true)
  | 12 => ("PitInspector$Crew", "lampsOut", "[I", true)
  | 13 => ("PitInspector$Crew", "shotCount", "I", false)
  | 14 => ("PitInspector$Crew", "shotPit", "[I", true)
  | _ => ("PitInspector$Crew", "shotMinute", "[I", true)
def cT_8 : Nat → FieldType := fun k => match k with
  | 0 => .int
  | 1 => .array .int
  | 2 => .array .int
  | 3 => .array .int
  | 4 => .int
  | 5 => .array .int
  | 6 => .array .boolean
  | 7 => .int
  | 8 => .array .int
  | 9 => .array .int
  | 10 => .array .int
  | 11 => .array .int
  | 12 => .array .int
  | 13 => .int
  | 14 => .array .int
  | _ => .array .int
def cF_9 : u_T := fun k => match k with
  | 0 => ("PitInspector$Warnings", "count", "I", false)
  | 1 => ("PitInspector$Warnings", "pit", "[I", true)
  | 2 => ("PitInspector$Warnings", "knownSince", "[I", true)
  | _ => ("PitInspector$Warnings", "acted", "[J", true)
def cT_9 : Nat → FieldType := fun k => match k with
  | 0 => .int
  | 1 => .array .int
  | 2 => .array .int
  | _ => .array .long
def cF_10 : u_T := fun k => match k with
  | 0 => ("PitInspector$Looks", "count", "I", false)
  | 1 => ("PitInspector$Looks", "worths", "[I", true)
  | 2 => ("PitInspector$Looks", "inspectorCount", "I", false)
  | 3 => ("PitInspector$Looks", "lookPit", "[I", true)
  | 4 => ("PitInspector$Looks", "lookBy", "[I", true)
  | 5 => ("PitInspector$Looks", "lastBy", "[I", true)
  | _ => ("PitInspector$Looks", "looked", "I", false)
def cT_10 : Nat → FieldType := fun k => match k with
  | 0 => .int
  | 1 => .array .int
  | 2 => .int
  | 3 => .array .int
  | 4 => .array .int
  | 5 => .array .int
  | _ => .int
def cF_11 : u_T := fun k => match k with
  | 0 => ("PitInspector$Inquest", "count", "I", false)
  | 1 => ("PitInspector$Inquest", "hand", "[I", true)
  | 2 => ("PitInspector$Inquest", "place", "[I", true)
  | 3 => ("PitInspector$Inquest", "minute", "[I", true)
  | 4 => ("PitInspector$Inquest", "clashes", "[I", true)
  | _ => ("PitInspector$Inquest", "minutesPerRoad", "I", false)
def cT_11 : Nat → FieldType := fun k => match k with
  | 0 => .int
  | 1 => .array .int
  | 2 => .array .int
  | 3 => .array .int
  | 4 => .array .int
  | _ => .int
def cF_12 : u_T := fun k => match k with
  | 0 => ("PitInspectorModel", "tape", "[B", true)
  | 1 => ("PitInspectorModel", "taped", "I", false)
  | 2 => ("PitInspectorModel", "now", "I", false)
  | 3 => ("PitInspectorModel", "pits", "I", false)
  | 4 => ("PitInspectorModel", "hands", "I", false)
  | 5 => ("PitInspectorModel", "texts", "I", false)
  | 6 => ("PitInspectorModel", "places", "I", false)
  | 7 => ("PitInspectorModel", "roads", "I", false)
  | 8 => ("PitInspectorModel", "plans", "I", false)
  | 9 => ("PitInspectorModel", "waters", "I", false)
  | 10 => ("PitInspectorModel", "faces", "I", false)
  | 11 => ("PitInspectorModel", "joins", "I", false)
  | 12 => ("PitInspectorModel", "lamps", "I", false)
  | 13 => ("PitInspectorModel", "outings", "I", false)
  | 14 => ("PitInspectorModel", "shots", "I", false)
  | 15 => ("PitInspectorModel", "warnings", "I", false)
  | 16 => ("PitInspectorModel", "falls", "I", false)
  | 17 => ("PitInspectorModel", "looks", "I", false)
  | 18 => ("PitInspectorModel", "seen", "I", false)
  | 19 => ("PitInspectorModel", "inspectors", "I", false)
  | 20 => ("PitInspectorModel", "pace", "I", false)
  | 21 => ("PitInspectorModel", "seam", "[I", true)
  | 22 => ("PitInspectorModel", "depth", "[I", true)
  | 23 => ("PitInspectorModel", "gas", "[I", true)
  | 24 => ("PitInspectorModel", "men", "[I", true)
  | 25 => ("PitInspectorModel", "book", "[I", true)
  | 26 => ("PitInspectorModel", "fallMany", "[I", true)
  | 27 => ("PitInspectorModel", "lastLook", "[I", true)
  | 28 => ("PitInspectorModel", "handPit", "[I", true)
  | 29 => ("PitInspectorModel", "duty", "[I", true)
  | 30 => ("PitInspectorModel", "outing", "[I", true)
  | 31 => ("PitInspectorModel", "textPit", "[I", true)
  | 32 => ("PitInspectorModel", "textFrom", "[I", true)
  | 33 => ("PitInspectorModel", "textTo", "[I", true)
  | 34 => ("PitInspectorModel", "clauseMany", "[I", true)
  | 35 => ("PitInspectorModel", "bytes", "[B", true)
  | 36 => ("PitInspectorModel", "letter", "[I", true)
  | 37 => ("PitInspectorModel", "first", "[I", true)
  | 38 => ("PitInspectorModel", "second", "[I", true)
  | 39 => ("PitInspectorModel", "byteFrom", "[I", true)
  | 40 => ("PitInspectorModel", "byteTo", "[I", true)
  | 41 => ("PitInspectorModel", "codeFrom", "[I", true)
  | 42 => ("PitInspectorModel", "codeTo", "[I", true)
  | 43 => ("PitInspectorModel", "code", "[I", true)
  | 44 => ("PitInspectorModel", "codeArg", "[I", true)
  | 45 => ("PitInspectorModel", "place", "I", false)
  | 46 => ("PitInspectorModel", "end", "I", false)
  | 47 => ("PitInspectorModel", "bad", "I", false)
  | 48 => ("PitInspectorModel", "many", "I", false)
  | 49 => ("PitInspectorModel", "codes", "I", false)
  | 50 => ("PitInspectorModel", "open", "I", false)
  | 51 => ("PitInspectorModel", "stacked", "I", false)
  | 52 => ("PitInspectorModel", "isDone", "Z", false)
  | 53 => ("PitInspectorModel", "isBehind", "Z", false)
  | 54 => ("PitInspectorModel", "stack", "[I", true)
  | 55 => ("PitInspectorModel", "isStruck", "[Z", true)
  | 56 => ("PitInspectorModel", "askedPit", "I", false)
  | 57 => ("PitInspectorModel", "isFound", "[Z", true)
  | 58 => ("PitInspectorModel", "found", "[J", true)
  | 59 => ("PitInspectorModel", "value", "[J", true)
  | 60 => ("PitInspectorModel", "isRefused", "[Z", true)
  | 61 => ("PitInspectorModel", "foundClause", "I", false)
  | 62 => ("PitInspectorModel", "placePit", "[I", true)
  | 63 => ("PitInspectorModel", "bank", "[I", true)
  | 64 => ("PitInspectorModel", "fanDown", "[I", true)
  | 65 => ("PitInspectorModel", "fanUp", "[I", true)
  | 66 => ("PitInspectorModel", "fanAir", "[I", true)
  | 67 => ("PitInspectorModel", "roadA", "[I", true)
  | 68 => ("PitInspectorModel", "roadB", "[I", true)
  | 69 => ("PitInspectorModel", "width", "[I", true)
  | 70 => ("PitInspectorModel", "hasDoor", "[Z", true)
  | 71 => ("PitInspectorModel", "isOpen", "[Z", true)
  | 72 => ("PitInspectorModel", "steps", "[I", true)
  | 73 => ("PitInspectorModel", "row", "[I", true)
  | 74 => ("PitInspectorModel", "comes", "[I", true)
  | 75 => ("PitInspectorModel", "over", "[I", true)
  | 76 => ("PitInspectorModel", "flow", "[I", true)
  | 77 => ("PitInspectorModel", "cameBy", "[I", true)
  | 78 => ("PitInspectorModel", "error", "[I", true)
  | 79 => ("PitInspectorModel", "turn", "[I", true)
  | 80 => ("PitInspectorModel", "shiftX", "[I", true)
  | 81 => ("PitInspectorModel", "shiftY", "[I", true)
  | 82 => ("PitInspectorModel", "waterPlan", "[I", true)
  | 83 => ("PitInspectorModel", "waterX", "[I", true)
  | 84 => ("PitInspectorModel", "waterY", "[I", true)
  | 85 => ("PitInspectorModel", "facePit", "[I", true)
  | 86 => ("PitInspectorModel", "facePlan", "[I", true)
  | 87 => ("PitInspectorModel", "faceX", "[I", true)
  | 88 => ("PitInspectorModel", "faceY", "[I", true)
  | 89 => ("PitInspectorModel", "joinPlan", "[I", true)
  | 90 => ("PitInspectorModel", "joinX", "[I", true)
  | 91 => ("PitInspectorModel", "joinY", "[I", true)
  | 92 => ("PitInspectorModel", "joinError", "[I", true)
  | 93 => ("PitInspectorModel", "lot", "[I", true)
  | 94 => ("PitInspectorModel", "isOut", "[Z", true)
  | 95 => ("PitInspectorModel", "outHand", "[I", true)
  | 96 => ("PitInspectorModel", "outLamp", "[I", true)
  | 97 => ("PitInspectorModel", "outUp", "[I", true)
  | 98 => ("PitInspectorModel", "shotHand", "[I", true)
  | 99 => ("PitInspectorModel", "shotMinute", "[I", true)
  | 100 => ("PitInspectorModel", "warnPit", "[I", true)
  | 101 => ("PitInspectorModel", "knows", "[I", true)
  | 102 => ("PitInspectorModel", "hasActed", "[Z", true)
  | 103 => ("PitInspectorModel", "lookPit", "[I", true)
  | 104 => ("PitInspectorModel", "lookBy", "[I", true)
  | 105 => ("PitInspectorModel", "worths", "[I", true)
  | 106 => ("PitInspectorModel", "isSent", "[Z", true)
  | 107 => ("PitInspectorModel", "seenHand", "[I", true)
  | 108 => ("PitInspectorModel", "seenPlace", "[I", true)
  | 109 => ("PitInspectorModel", "seenMinute", "[I", true)
  | _ => ("PitInspectorModel", "against", "[I", true)
def cT_12 : Nat → FieldType := fun k => match k with
  | 0 => .array .byte
  | 1 => .int
  | 2 => .int
  | 3 => .int
  | 4 => .int
  | 5 => .int
  | 6 => .int
  | 7 => .int
  | 8 => .int
  | 9 => .int
  | 10 => .int
  | 11 => .int
  | 12 => .int
  | 13 => .int
  | 14 => .int
  | 15 => .int
  | 16 => .int
  | 17 => .int
  | 18 => .int
  | 19 => .int
  | 20 => .int
  | 21 => .array .int
  | 22 => .array .int
  | 23 => .array .int
  | 24 => .array .int
  | 25 => .array .int
  | 26 => .array .int
  | 27 => .array .int
  | 28 => .array .int
  | 29 => .array .int
  | 30 => .array .int
  | 31 => .array .int
  | 32 => .array .int
  | 33 => .array .int
  | 34 => .array .int
  | 35 => .array .byte
  | 36 => .array .int
  | 37 => .array .int
  | 38 => .array .int
  | 39 => .array .int
  | 40 => .array .int
  | 41 => .array .int
  | 42 => .array .int
  | 43 => .array .int
  | 44 => .array .int
  | 45 => .int
  | 46 => .int
  | 47 => .int
  | 48 => .int
  | 49 => .int
  | 50 => .int
  | 51 => .int
  | 52 => .boolean
  | 53 => .boolean
  | 54 => .array .int
  | 55 => .array .boolean
  | 56 => .int
  | 57 => .array .boolean
  | 58 => .array .long
  | 59 => .array .long
  | 60 => .array .boolean
  | 61 => .int
  | 62 => .array .int
  | 63 => .array .int
  | 64 => .array .int
  | 65 => .array .int
  | 66 => .array .int
  | 67 => .array .int
  | 68 => .array .int
  | 69 => .array .int
  | 70 => .array .boolean
  | 71 => .array .boolean
  | 72 => .array .int
  | 73 => .array .int
  | 74 => .array .int
  | 75 => .array .int
  | 76 => .array .int
  | 77 => .array .int
  | 78 => .array .int
  | 79 => .array .int
  | 80 => .array .int
  | 81 => .array .int
  | 82 => .array .int
  | 83 => .array .int
  | 84 => .array .int
  | 85 => .array .int
  | 86 => .array .int
  | 87 => .array .int
  | 88 => .array .int
  | 89 => .array .int
  | 90 => .array .int
  | 91 => .array .int
  | 92 => .array .int
  | 93 => .array .int
  | 94 => .array .boolean
  | 95 => .array .int
  | 96 => .array .int
  | 97 => .array .int
  | 98 => .array .int
  | 99 => .array .int
  | 100 => .array .int
  | 101 => .array .int
  | 102 => .array .boolean
  | 103 => .array .int
  | 104 => .array .int
  | 105 => .array .int
  | 106 => .array .boolean
  | 107 => .array .int
  | 108 => .array .int
  | 109 => .array .int
  | _ => .array .int
def cF : Nat → u_T := fun i => match i with
  | 0 => cF_0
  | 1 => cF_1
  | 2 => cF_2
  | 3 => cF_3
  | 4 => cF_4
  | 5 => cF_5
  | 6 => cF_6
  | 7 => cF_7
  | 8 => cF_8
  | 9 => cF_9
  | 10 => cF_10
  | 11 => cF_11
  | _ => cF_12
def cT : Nat → (Nat → FieldType) := fun i => match i with
  | 0 => cT_0
  | 1 => cT_1
  | 2 => cT_2
  | 3 => cT_3
  | 4 => cT_4
  | 5 => cT_5
  | 6 => cT_6
  | 7 => cT_7
  | 8 => cT_8
  | 9 => cT_9
  | 10 => cT_10
  | 11 => cT_11
  | _ => cT_12
def cNL : List Nat := [12, 8, 9, 17, 4, 15, 6, 13, 16, 4, 7, 6, 111]
def cN (i : Nat) : Nat := cNL.getD i 0
def kdO (t : FieldType) : Nat := match t with
  | .int => 0
  | .boolean => 2
  | _ => 1
def FTY (ci k : Nat) : Nat := kdO (cT ci k)
abbrev classes : List vw_C := [(oN 0, cF_0, 12), (oN 1, cF_1, 8), (oN 2, cF_2, 9), (oN 3, cF_3, 17), (oN 4, cF_4, 4), (oN 5, cF_5, 15), (oN 6, cF_6, 6), (oN 7, cF_7, 13), (oN 8, cF_8, 16), (oN 9, cF_9, 4), (oN 10, cF_10, 7), (oN 11, cF_11, 6), (oN 12, cF_12, 111)]
theorem classes_at {ci : Nat} (h : ci < 13) : classes[ci]? = some (oN ci, cF ci, cN ci) := by
  match ci, h with
  | 0, _ => rfl
  | 1, _ => rfl
  | 2, _ => rfl
  | 3, _ => rfl
  | 4, _ => rfl
  | 5, _ => rfl
  | 6, _ => rfl
  | 7, _ => rfl
  | 8, _ => rfl
  | 9, _ => rfl
  | 10, _ => rfl
  | 11, _ => rfl
  | 12, _ => rfl
  | k + 13, h => exact absurd h (by omega)
def cP_0 : List Nat := [509, 511, 513, 515, 517, 519, 521, 523, 525, 527, 529, 531]
theorem cW_0 : ∀ k, k < 12 → tables_1[cP_0.getD k 0]? = some (u_lay (oN 0) cF_0 k) ∧ goodWord (u_lay (oN 0) cF_0 k) = true := by decide +kernel
theorem cM_0 : ∀ a, a < 12 → ∀ b, b < 12 → a ≠ b → (cF_0 a).2.1 ≠ (cF_0 b).2.1 := by decide +kernel
theorem cY_0 : ∀ k, k < 12 → parseFieldDescriptor (cF_0 k).2.2.1 = some (cT_0 k) ∧ (cF_0 k).1 = oN 0 := by decide +kernel
theorem cI_0 : tables_1[24]? = some (.instantiable (oN 0) 12) ∧ tables_1[1]? = some (.initialized (oN 0)) ∧ goodWord (.instantiable (oN 0) 12) = true ∧ goodWord (.initialized (oN 0)) = true := by decide +kernel
def cP_1 : List Nat := [52, 54, 56, 58, 60, 62, 64, 66]
theorem cW_1 : ∀ k, k < 8 → tables_1[cP_1.getD k 0]? = some (u_lay (oN 1) cF_1 k) ∧ goodWord (u_lay (oN 1) cF_1 k) = true := by decide +kernel
theorem cM_1 : ∀ a, a < 8 → ∀ b, b < 8 → a ≠ b → (cF_1 a).2.1 ≠ (cF_1 b).2.1 := by decide +kernel
theorem cY_1 : ∀ k, k < 8 → parseFieldDescriptor (cF_1 k).2.2.1 = some (cT_1 k) ∧ (cF_1 k).1 = oN 1 := by decide +kernel
theorem cI_1 : tables_1[32]? = some (.instantiable (oN 1) 8) ∧ tables_1[2]? = some (.initialized (oN 1)) ∧ goodWord (.instantiable (oN 1) 8) = true ∧ goodWord (.initialized (oN 1)) = true := by decide +kernel
def cP_2 : List Nat := [192, 194, 196, 198, 200, 202, 204, 206, 208]
theorem cW_2 : ∀ k, k < 9 → tables_1[cP_2.getD k 0]? = some (u_lay (oN 2) cF_2 k) ∧ goodWord (u_lay (oN 2) cF_2 k) = true := by decide +kernel
theorem cM_2 : ∀ a, a < 9 → ∀ b, b < 9 → a ≠ b → (cF_2 a).2.1 ≠ (cF_2 b).2.1 := by decide +kernel
theorem cY_2 : ∀ k, k < 9 → parseFieldDescriptor (cF_2 k).2.2.1 = some (cT_2 k) ∧ (cF_2 k).1 = oN 2 := by decide +kernel
theorem cI_2 : tables_1[72]? = some (.instantiable (oN 2) 9) ∧ tables_1[3]? = some (.initialized (oN 2)) ∧ goodWord (.instantiable (oN 2) 9) = true ∧ goodWord (.initialized (oN 2)) = true := by decide +kernel
def cP_3 : List Nat := [126, 128, 130, 132, 134, 136, 138, 140, 142, 144, 146, 148, 150, 152, 154, 156, 158]
theorem cW_3 : ∀ k, k < 17 → tables_1[cP_3.getD k 0]? = some (u_lay (oN 3) cF_3 k) ∧ goodWord (u_lay (oN 3) cF_3 k) = true := by decide +kernel
theorem cM_3 : ∀ a, a < 17 → ∀ b, b < 17 → a ≠ b → (cF_3 a).2.1 ≠ (cF_3 b).2.1 := by decide +kernel
theorem cY_3 : ∀ k, k < 17 → parseFieldDescriptor (cF_3 k).2.2.1 = some (cT_3 k) ∧ (cF_3 k).1 = oN 3 := by decide +kernel
theorem cI_3 : tables_1[79]? = some (.instantiable (oN 3) 17) ∧ tables_1[4]? = some (.initialized (oN 3)) ∧ goodWord (.instantiable (oN 3) 17) = true ∧ goodWord (.initialized (oN 3)) = true := by decide +kernel
def cP_4 : List Nat := [172, 174, 176, 178]
theorem cW_4 : ∀ k, k < 4 → tables_1[cP_4.getD k 0]? = some (u_lay (oN 4) cF_4 k) ∧ goodWord (u_lay (oN 4) cF_4 k) = true := by decide +kernel
theorem cM_4 : ∀ a, a < 4 → ∀ b, b < 4 → a ≠ b → (cF_4 a).2.1 ≠ (cF_4 b).2.1 := by decide +kernel
theorem cY_4 : ∀ k, k < 4 → parseFieldDescriptor (cF_4 k).2.2.1 = some (cT_4 k) ∧ (cF_4 k).1 = oN 4 := by decide +kernel
theorem cI_4 : tables_1[163]? = some (.instantiable (oN 4) 4) ∧ tables_1[5]? = some (.initialized (oN 4)) ∧ goodWord (.instantiable (oN 4) 4) = true ∧ goodWord (.initialized (oN 4)) = true := by decide +kernel
def cP_5 : List Nat := [246, 248, 250, 252, 254, 256, 258, 260, 262, 264, 266, 268, 270, 272, 274]
theorem cW_5 : ∀ k, k < 15 → tables_1[cP_5.getD k 0]? = some (u_lay (oN 5) cF_5 k) ∧ goodWord (u_lay (oN 5) cF_5 k) = true := by decide +kernel
theorem cM_5 : ∀ a, a < 15 → ∀ b, b < 15 → a ≠ b → (cF_5 a).2.1 ≠ (cF_5 b).2.1 := by decide +kernel
theorem cY_5 : ∀ k, k < 15 → parseFieldDescriptor (cF_5 k).2.2.1 = some (cT_5 k) ∧ (cF_5 k).1 = oN 5 := by decide +kernel
theorem cI_5 : tables_1[212]? = some (.instantiable (oN 5) 15) ∧ tables_1[6]? = some (.initialized (oN 5)) ∧ goodWord (.instantiable (oN 5) 15) = true ∧ goodWord (.initialized (oN 5)) = true := by decide +kernel
def cP_6 : List Nat := [290, 292, 294, 296, 298, 300]
theorem cW_6 : ∀ k, k < 6 → tables_1[cP_6.getD k 0]? = some (u_lay (oN 6) cF_6 k) ∧ goodWord (u_lay (oN 6) cF_6 k) = true := by decide +kernel
theorem cM_6 : ∀ a, a < 6 → ∀ b, b < 6 → a ≠ b → (cF_6 a).2.1 ≠ (cF_6 b).2.1 := by decide +kernel
theorem cY_6 : ∀ k, k < 6 → parseFieldDescriptor (cF_6 k).2.2.1 = some (cT_6 k) ∧ (cF_6 k).1 = oN 6 := by decide +kernel
theorem cI_6 : tables_1[278]? = some (.instantiable (oN 6) 6) ∧ tables_1[8]? = some (.initialized (oN 6)) ∧ goodWord (.instantiable (oN 6) 6) = true ∧ goodWord (.initialized (oN 6)) = true := by decide +kernel
def cP_7 : List Nat := [326, 328, 330, 332, 334, 336, 338, 340, 342, 344, 346, 348, 350]
theorem cW_7 : ∀ k, k < 13 → tables_1[cP_7.getD k 0]? = some (u_lay (oN 7) cF_7 k) ∧ goodWord (u_lay (oN 7) cF_7 k) = true := by decide +kernel
theorem cM_7 : ∀ a, a < 13 → ∀ b, b < 13 → a ≠ b → (cF_7 a).2.1 ≠ (cF_7 b).2.1 := by decide +kernel
theorem cY_7 : ∀ k, k < 13 → parseFieldDescriptor (cF_7 k).2.2.1 = some (cT_7 k) ∧ (cF_7 k).1 = oN 7 := by decide +kernel
theorem cI_7 : tables_1[304]? = some (.instantiable (oN 7) 13) ∧ tables_1[9]? = some (.initialized (oN 7)) ∧ goodWord (.instantiable (oN 7) 13) = true ∧ goodWord (.initialized (oN 7)) = true := by decide +kernel
def cP_8 : List Nat := [384, 386, 388, 390, 392, 394, 396, 398, 400, 402, 404, 406, 408, 410, 412, 414]
theorem cW_8 : ∀ k, k < 16 → tables_1[cP_8.getD k 0]? = some (u_lay (oN 8) cF_8 k) ∧ goodWord (u_lay (oN 8) cF_8 k) = true := by decide +kernel
theorem cM_8 : ∀ a, a < 16 → ∀ b, b < 16 → a ≠ b → (cF_8 a).2.1 ≠ (cF_8 b).2.1 := by decide +kernel
theorem cY_8 : ∀ k, k < 16 → parseFieldDescriptor (cF_8 k).2.2.1 = some (cT_8 k) ∧ (cF_8 k).1 = oN 8 := by decide +kernel
theorem cI_8 : tables_1[354]? = some (.instantiable (oN 8) 16) ∧ tables_1[10]? = some (.initialized (oN 8)) ∧ goodWord (.instantiable (oN 8) 16) = true ∧ goodWord (.initialized (oN 8)) = true := by decide +kernel
def cP_9 : List Nat := [431, 433, 435, 437]
theorem cW_9 : ∀ k, k < 4 → tables_1[cP_9.getD k 0]? = some (u_lay (oN 9) cF_9 k) ∧ goodWord (u_lay (oN 9) cF_9 k) = true := by decide +kernel
theorem cM_9 : ∀ a, a < 4 → ∀ b, b < 4 → a ≠ b → (cF_9 a).2.1 ≠ (cF_9 b).2.1 := by decide +kernel
theorem cY_9 : ∀ k, k < 4 → parseFieldDescriptor (cF_9 k).2.2.1 = some (cT_9 k) ∧ (cF_9 k).1 = oN 9 := by decide +kernel
theorem cI_9 : tables_1[419]? = some (.instantiable (oN 9) 4) ∧ tables_1[11]? = some (.initialized (oN 9)) ∧ goodWord (.instantiable (oN 9) 4) = true ∧ goodWord (.initialized (oN 9)) = true := by decide +kernel
def cP_10 : List Nat := [456, 458, 460, 462, 464, 466, 468]
theorem cW_10 : ∀ k, k < 7 → tables_1[cP_10.getD k 0]? = some (u_lay (oN 10) cF_10 k) ∧ goodWord (u_lay (oN 10) cF_10 k) = true := by decide +kernel
theorem cM_10 : ∀ a, a < 7 → ∀ b, b < 7 → a ≠ b → (cF_10 a).2.1 ≠ (cF_10 b).2.1 := by decide +kernel
theorem cY_10 : ∀ k, k < 7 → parseFieldDescriptor (cF_10 k).2.2.1 = some (cT_10 k) ∧ (cF_10 k).1 = oN 10 := by decide +kernel
theorem cI_10 : tables_1[441]? = some (.instantiable (oN 10) 7) ∧ tables_1[12]? = some (.initialized (oN 10)) ∧ goodWord (.instantiable (oN 10) 7) = true ∧ goodWord (.initialized (oN 10)) = true := by decide +kernel
def cP_11 : List Nat := [484, 486, 488, 490, 492, 494]
theorem cW_11 : ∀ k, k < 6 → tables_1[cP_11.getD k 0]? = some (u_lay (oN 11) cF_11 k) ∧ goodWord (u_lay (oN 11) cF_11 k) = true := by decide +kernel
theorem cM_11 : ∀ a, a < 6 → ∀ b, b < 6 → a ≠ b → (cF_11 a).2.1 ≠ (cF_11 b).2.1 := by decide +kernel
theorem cY_11 : ∀ k, k < 6 → parseFieldDescriptor (cF_11 k).2.2.1 = some (cT_11 k) ∧ (cF_11 k).1 = oN 11 := by decide +kernel
theorem cI_11 : tables_1[472]? = some (.instantiable (oN 11) 6) ∧ tables_1[13]? = some (.initialized (oN 11)) ∧ goodWord (.instantiable (oN 11) 6) = true ∧ goodWord (.initialized (oN 11)) = true := by decide +kernel
def cP_12 : List Nat := [1577, 1579, 1581, 1583, 1585, 1587, 1589, 1591, 1593, 1595, 1597, 1599, 1601, 1603, 1605, 1607, 1609, 1611, 1613, 1615, 1617, 1619, 1621, 1623, 1625, 1627, 1629, 1631, 1633, 1635, 1637, 1639, 1641, 1643, 1645, 1647, 1649, 1651, 1653, 1655, 1657, 1659, 1661, 1663, 1665, 1667, 1669, 1671, 1673, 1675, 1677, 1679, 1681, 1683, 1685, 1687, 1689, 1691, 1693, 1695, 1697, 1699, 1701, 1703, 1705, 1707, 1709, 1711, 1713, 1715, 1717, 1719, 1721, 1723, 1725, 1727, 1729, 1731, 1733, 1735, 1737, 1739, 1741, 1743, 1745, 1747, 1749, 1751, 1753, 1755, 1757, 1759, 1761, 1763, 1765, 1767, 1769, 1771, 1773, 1775, 1777, 1779, 1781, 1783, 1785, 1787, 1789, 1791, 1793, 1795, 1797]
theorem cW_12 : ∀ k, k < 111 → tables_1[cP_12.getD k 0]? = some (u_lay (oN 12) cF_12 k) ∧ goodWord (u_lay (oN 12) cF_12 k) = true := by decide +kernel
theorem cM_12 : ∀ a, a < 111 → ∀ b, b < 111 → a ≠ b → (cF_12 a).2.1 ≠ (cF_12 b).2.1 := by decide +kernel
theorem cY_12 : ∀ k, k < 111 → parseFieldDescriptor (cF_12 k).2.2.1 = some (cT_12 k) ∧ (cF_12 k).1 = oN 12 := by decide +kernel
theorem cI_12 : tables_1[1461]? = some (.instantiable (oN 12) 111) ∧ tables_1[14]? = some (.initialized (oN 12)) ∧ goodWord (.instantiable (oN 12) 111) = true ∧ goodWord (.initialized (oN 12)) = true := by decide +kernel
theorem ws_in {C : String} {T : u_T} {N : Nat} {P : List Nat} (h : ∀ k, k < N → tables_1[P.getD k 0]? = some (u_lay C T k) ∧ goodWord (u_lay C T k) = true) : ∀ w ∈ u_ws C T N, w ∈ wT := by
  intro w hw
  obtain ⟨k, hk, rfl⟩ := List.mem_map.mp hw
  exact wT_t (h k (List.mem_range.mp hk)).1 (h k (List.mem_range.mp hk)).2
theorem cW_all {ci : Nat} (h : ci < 13) : ∀ w ∈ u_ws (oN ci) (cF ci) (cN ci), w ∈ wT := by
  match ci, h with
  | 0, _ => exact ws_in cW_0
  | 1, _ => exact ws_in cW_1
  | 2, _ => exact ws_in cW_2
  | 3, _ => exact ws_in cW_3
  | 4, _ => exact ws_in cW_4
  | 5, _ => exact ws_in cW_5
  | 6, _ => exact ws_in cW_6
  | 7, _ => exact ws_in cW_7
  | 8, _ => exact ws_in cW_8
  | 9, _ => exact ws_in cW_9
  | 10, _ => exact ws_in cW_10
  | 11, _ => exact ws_in cW_11
  | 12, _ => exact ws_in cW_12
  | k + 13, h => exact absurd h (by omega)
theorem cM_all {ci : Nat} (h : ci < 13) : ∀ a, a < cN ci → ∀ b, b < cN ci → a ≠ b → (cF ci a).2.1 ≠ (cF ci b).2.1 := by
  match ci, h with
  | 0, _ => exact cM_0
  | 1, _ => exact cM_1
  | 2, _ => exact cM_2
  | 3, _ => exact cM_3
  | 4, _ => exact cM_4
  | 5, _ => exact cM_5
  | 6, _ => exact cM_6
  | 7, _ => exact cM_7
  | 8, _ => exact cM_8
  | 9, _ => exact cM_9
  | 10, _ => exact cM_10
  | 11, _ => exact cM_11
  | 12, _ => exact cM_12
  | k + 13, h => exact absurd h (by omega)
theorem cY_all {ci : Nat} (h : ci < 13) : ∀ k, k < cN ci → parseFieldDescriptor (cF ci k).2.2.1 = some (cT ci k) ∧ (cF ci k).1 = oN ci := by
  match ci, h with
  | 0, _ => exact cY_0
  | 1, _ => exact cY_1
  | 2, _ => exact cY_2
  | 3, _ => exact cY_3
  | 4, _ => exact cY_4
  | 5, _ => exact cY_5
  | 6, _ => exact cY_6
  | 7, _ => exact cY_7
  | 8, _ => exact cY_8
  | 9, _ => exact cY_9
  | 10, _ => exact cY_10
  | 11, _ => exact cY_11
  | 12, _ => exact cY_12
  | k + 13, h => exact absurd h (by omega)
theorem cI_all {ci : Nat} (h : ci < 13) : Cond.instantiable (oN ci) (cN ci) ∈ wT ∧ Cond.initialized (oN ci) ∈ wT := by
  match ci, h with
  | 0, _ => exact ⟨wT_t cI_0.1 cI_0.2.2.1, wT_t cI_0.2.1 cI_0.2.2.2⟩
  | 1, _ => exact ⟨wT_t cI_1.1 cI_1.2.2.1, wT_t cI_1.2.1 cI_1.2.2.2⟩
  | 2, _ => exact ⟨wT_t cI_2.1 cI_2.2.2.1, wT_t cI_2.2.1 cI_2.2.2.2⟩
  | 3, _ => exact ⟨wT_t cI_3.1 cI_3.2.2.1, wT_t cI_3.2.1 cI_3.2.2.2⟩
  | 4, _ => exact ⟨wT_t cI_4.1 cI_4.2.2.1, wT_t cI_4.2.1 cI_4.2.2.2⟩
  | 5, _ => exact ⟨wT_t cI_5.1 cI_5.2.2.1, wT_t cI_5.2.1 cI_5.2.2.2⟩
  | 6, _ => exact ⟨wT_t cI_6.1 cI_6.2.2.1, wT_t cI_6.2.1 cI_6.2.2.2⟩
  | 7, _ => exact ⟨wT_t cI_7.1 cI_7.2.2.1, wT_t cI_7.2.1 cI_7.2.2.2⟩
  | 8, _ => exact ⟨wT_t cI_8.1 cI_8.2.2.1, wT_t cI_8.2.1 cI_8.2.2.2⟩
  | 9, _ => exact ⟨wT_t cI_9.1 cI_9.2.2.1, wT_t cI_9.2.1 cI_9.2.2.2⟩
  | 10, _ => exact ⟨wT_t cI_10.1 cI_10.2.2.1, wT_t cI_10.2.1 cI_10.2.2.2⟩
  | 11, _ => exact ⟨wT_t cI_11.1 cI_11.2.2.1, wT_t cI_11.2.1 cI_11.2.2.2⟩
  | 12, _ => exact ⟨wT_t cI_12.1 cI_12.2.2.1, wT_t cI_12.2.1 cI_12.2.2.2⟩
  | k + 13, h => exact absurd h (by omega)
def FT : List (Nat × Nat × Nat × Nat × Nat) := [(0, 9, 0, 1, 498), (0, 16, 0, 3, 500), (0, 23, 0, 4, 501), (0, 30, 0, 5, 502), (0, 37, 0, 6, 503), (0, 44, 0, 7, 504), (0, 51, 0, 8, 505), (0, 58, 0, 9, 506), (0, 65, 0, 10, 507), (0, 72, 0, 11, 508), (0, 76, 0, 0, 497), (0, 100, 0, 2, 499), (0, 266, 8, 11, 377), (0, 270, 1, 4, 46), (0, 287, 8, 1, 362), (0, 294, 9, 1, 428), (0, 323, 1, 6, 49), (0, 327, 10, 1, 450), (0, 355, 8, 2, 365), (0, 364, 8, 0, 360), (0, 365, 2, 1, 184), (0, 366, 5, 0, 221), (0, 369, 5, 1, 224), (0, 372, 7, 0, 310), (0, 375, 7, 1, 312), (0, 378, 7, 2, 314), (0, 381, 7, 3, 316), (0, 384, 8, 4, 368), (0, 387, 8, 7, 372), (0, 390, 8, 13, 381), (0, 393, 9, 0, 426), (0, 394, 1, 7, 51), (0, 397, 10, 0, 448), (0, 398, 11, 0, 478), (0, 399, 2, 0, 182), (0, 403, 1, 0, 38), (0, 406, 1, 1, 40), (0, 409, 1, 2, 42), (0, 412, 1, 3, 44), (0, 415, 8, 12, 379), (6, 9, 6, 0, 284), (6, 15, 6, 1, 285), (6, 18, 6, 2, 286), (6, 23, 6, 3, 287), (6, 26, 6, 4, 288), (6, 29, 6, 5, 289), (6, 66, 5, 1, 223), (6, 79, 5, 6, 235), (6, 82, 5, 8, 238), (6, 85, 5, 7, 237), (6, 95, 5, 5, 232), (6, 98, 5, 4, 230), (6, 105, 5, 2, 226), (6, 108, 5, 3, 228), (8, 9, 8, 1, 361), (8, 15, 8, 2, 363), (8, 18, 8, 3, 366), (8, 21, 8, 5, 369), (8, 24, 8, 6, 370), (8, 28, 8, 8, 373), (8, 31, 8, 9, 374), (8, 34, 8, 10, 375), (8, 37, 8, 11, 376), (8, 40, 8, 12, 378), (8, 43, 8, 14, 382), (8, 46, 8, 15, 383), (8, 49, 8, 0, 359), (8, 61, 8, 4, 367), (8, 67, 8, 7, 371), (8, 74, 8, 13, 380), (11, 11, 11, 1, 479), (11, 15, 11, 2, 480), (11, 18, 11, 3, 481), (11, 21, 11, 4, 482), (11, 24, 11, 5, 483), (11, 28, 11, 0, 477), (11, 41, 5, 6, 234), (2, 11, 2, 0, 181), (2, 17, 2, 2, 185), (2, 22, 2, 3, 186), (2, 29, 2, 4, 187), (2, 33, 2, 6, 189), (2, 36, 2, 7, 190), (2, 40, 2, 1, 183), (2, 48, 3, 0, 85), (2, 51, 3, 5, 95), (2, 54, 2, 5, 188), (2, 69, 3, 1, 87), (2, 72, 3, 2, 89), (2, 75, 3, 16, 124), (2, 87, 3, 13, 117), (2, 90, 3, 6, 99), (2, 96, 3, 7, 102), (2, 99, 3, 8, 105), (2, 102, 2, 8, 191), (2, 135, 3, 11, 112), (2, 138, 3, 12, 115), (2, 141, 3, 14, 120), (10, 9, 10, 1, 449), (10, 15, 10, 2, 451), (10, 19, 10, 3, 452), (10, 22, 10, 4, 453), (10, 25, 10, 5, 454), (10, 38, 10, 6, 455), (10, 41, 10, 0, 447), (5, 11, 5, 2, 225), (5, 15, 5, 3, 227), (5, 18, 5, 4, 229), (5, 21, 5, 5, 231), (5, 24, 5, 6, 233), (5, 27, 5, 7, 236), (5, 30, 5, 9, 240), (5, 33, 5, 10, 241), (5, 36, 5, 11, 242), (5, 39, 5, 12, 243), (5, 42, 5, 13, 244), (5, 45, 5, 14, 245), (5, 54, 5, 0, 220), (5, 58, 5, 1, 222), (5, 86, 5, 8, 239), (1, 9, 1, 0, 37), (1, 15, 1, 1, 39), (1, 18, 1, 2, 41), (1, 21, 1, 3, 43), (1, 24, 1, 4, 45), (1, 27, 1, 5, 47), (1, 30, 1, 6, 48), (1, 42, 1, 7, 50), (4, 9, 4, 0, 168), (4, 15, 4, 1, 169), (4, 19, 4, 3, 171), (4, 33, 3, 3, 91), (4, 38, 3, 4, 93), (4, 46, 3, 6, 98), (4, 50, 3, 5, 96), (4, 56, 3, 9, 107), (4, 59, 3, 11, 111), (4, 62, 3, 15, 122), (4, 68, 3, 10, 109), (4, 71, 3, 12, 114), (4, 78, 3, 7, 101), (4, 80, 4, 2, 170), (4, 86, 3, 8, 104), (4, 129, 3, 16, 125), (4, 132, 3, 14, 119), (7, 11, 7, 4, 317), (7, 15, 7, 5, 318), (7, 18, 7, 6, 319), (7, 21, 7, 7, 320), (7, 24, 7, 8, 321), (7, 27, 7, 9, 322), (7, 30, 7, 10, 323), (7, 33, 7, 11, 324), (7, 36, 7, 12, 325), (7, 39, 7, 1, 311), (7, 43, 7, 2, 313), (7, 46, 7, 0, 309), (7, 66, 7, 3, 315), (3, 9, 3, 4, 92), (3, 15, 3, 6, 97), (3, 19, 3, 7, 100), (3, 22, 3, 8, 103), (3, 25, 3, 9, 106), (3, 28, 3, 10, 108), (3, 31, 3, 11, 110), (3, 34, 3, 12, 113), (3, 37, 3, 14, 118), (3, 46, 3, 3, 90), (3, 56, 3, 5, 94), (3, 59, 3, 15, 121), (3, 62, 3, 16, 123), (3, 65, 3, 1, 86), (3, 68, 3, 2, 88), (3, 71, 3, 0, 84), (3, 78, 3, 13, 116), (9, 11, 9, 1, 427), (9, 15, 9, 2, 429), (9, 18, 9, 3, 430), (9, 28, 9, 0, 425), (9, 45, 8, 2, 364), (12, 7, 12, 0, 1466), (12, 13, 12, 19, 1485), (12, 17, 12, 20, 1486), (12, 20, 12, 21, 1487), (12, 24, 12, 22, 1488), (12, 27, 12, 23, 1489), (12, 30, 12, 24, 1490), (12, 33, 12, 25, 1491), (12, 36, 12, 26, 1492), (12, 39, 12, 27, 1493), (12, 42, 12, 28, 1494), (12, 45, 12, 29, 1495), (12, 48, 12, 30, 1496), (12, 51, 12, 31, 1497), (12, 54, 12, 32, 1498), (12, 57, 12, 33, 1499), (12, 60, 12, 34, 1500), (12, 63, 12, 35, 1501), (12, 66, 12, 36, 1502), (12, 69, 12, 37, 1503), (12, 72, 12, 38, 1504), (12, 75, 12, 39, 1505), (12, 78, 12, 40, 1506), (12, 81, 12, 41, 1507), (12, 84, 12, 42, 1508), (12, 87, 12, 43, 1509), (12, 90, 12, 44, 1510), (12, 93, 12, 54, 1520), (12, 96, 12, 55, 1521), (12, 100, 12, 57, 1523), (12, 103, 12, 58, 1524), (12, 107, 12, 59, 1525), (12, 110, 12, 60, 1526), (12, 113, 12, 62, 1528), (12, 116, 12, 63, 1529), (12, 119, 12, 64, 1530), (12, 122, 12, 65, 1531), (12, 125, 12, 66, 1532), (12, 128, 12, 67, 1533), (12, 131, 12, 68, 1534), (12, 134, 12, 69, 1535), (12, 137, 12, 70, 1536), (12, 140, 12, 71, 1537), (12, 143, 12, 72, 1538), (12, 146, 12, 73, 1539), (12, 149, 12, 74, 1540), (12, 152, 12, 75, 1541), (12, 155, 12, 76, 1542), (12, 158, 12, 77, 1543), (12, 161, 12, 78, 1544), (12, 164, 12, 79, 1545), (12, 167, 12, 80, 1546), (12, 170, 12, 81, 1547), (12, 173, 12, 82, 1548), (12, 176, 12, 83, 1549), (12, 179, 12, 84, 1550), (12, 182, 12, 85, 1551), (12, 185, 12, 86, 1552), (12, 188, 12, 87, 1553), (12, 191, 12, 88, 1554), (12, 194, 12, 89, 1555), (12, 197, 12, 90, 1556), (12, 200, 12, 91, 1557), (12, 203, 12, 92, 1558), (12, 206, 12, 93, 1559), (12, 209, 12, 94, 1560), (12, 212, 12, 95, 1561), (12, 215, 12, 96, 1562), (12, 218, 12, 97, 1563), (12, 221, 12, 98, 1564), (12, 224, 12, 99, 1565), (12, 227, 12, 100, 1566), (12, 230, 12, 101, 1567), (12, 233, 12, 102, 1568), (12, 236, 12, 103, 1569), (12, 239, 12, 104, 1570), (12, 242, 12, 105, 1571), (12, 245, 12, 106, 1572), (12, 248, 12, 107, 1573), (12, 251, 12, 108, 1574), (12, 254, 12, 109, 1575), (12, 257, 12, 110, 1576), (12, 260, 12, 2, 1468), (12, 269, 12, 3, 1469), (12, 272, 12, 4, 1470), (12, 287, 12, 1, 1467), (12, 294, 12, 45, 1511), (12, 297, 12, 46, 1512), (12, 300, 12, 47, 1513), (12, 307, 12, 5, 1471), (12, 310, 12, 49, 1515), (12, 313, 12, 51, 1517), (12, 316, 12, 50, 1516), (12, 364, 12, 53, 1519), (12, 383, 12, 52, 1518), (12, 392, 12, 48, 1514), (12, 424, 12, 56, 1522), (12, 427, 12, 14, 1480), (12, 469, 12, 61, 1527), (12, 486, 12, 6, 1472), (12, 489, 12, 7, 1473), (12, 532, 12, 8, 1474), (12, 549, 12, 9, 1475), (12, 552, 12, 10, 1476), (12, 583, 12, 11, 1477), (12, 586, 12, 12, 1478), (12, 591, 12, 13, 1479), (12, 603, 12, 15, 1481), (12, 612, 12, 16, 1482), (12, 620, 12, 17, 1483), (12, 634, 12, 18, 1484)]
def FTp (q : Nat × Nat × Nat × Nat × Nat) : Cond := .fieldLink (oN q.1) q.2.1 (oN q.2.2.1) (cF q.2.2.1 q.2.2.2.1).2.1 (cF q.2.2.1 q.2.2.2.1).2.2.1
theorem FT_ok : ∀ q ∈ FT, (tables_1[q.2.2.2.2]? = some (FTp q) ∧ goodWord (FTp q) = true) ∧ q.2.2.1 < 13 ∧ q.2.2.2.1 < cN q.2.2.1 := by decide +kernel
def KT : List (Nat × Nat × Int × Nat) := [(0, 80, 5000000, 538), (0, 273, -100000, 1235), (0, 326, 134455, 1364), (6, 38, 1000000, 1046), (10, 56, 134456, 1373), (7, 53, -100000, 1105), (7, 54, 100000, 1106), (7, 91, 99999, 880), (12, 352, 99999, 1884), (12, 597, -100000, 2230), (14, 265, 1431655765, 1447), (14, 266, 858993459, 1448), (14, 267, 252645135, 1449)]
theorem KT_ok : ∀ q ∈ KT, tables_1[q.2.2.2]? = some (.constant (oN q.1) q.2.1 (Int32.ofInt q.2.2.1)) ∧ goodWord (.constant (oN q.1) q.2.1 (Int32.ofInt q.2.2.1)) = true := by decide +kernel
def KL : List (Nat × Nat × Int × Nat) := [(0, 144, -1, 956), (1, 45, 4, 1342), (12, 263, 5000000, 1804), (12, 275, 7, 1812), (12, 277, 2000, 1813), (12, 279, 100, 1814), (12, 285, 4, 1827), (12, 330, 48, 1882), (12, 332, 57, 1883), (12, 401, 3472, 1840), (12, 403, 160, 1841), (12, 475, -1, 2091), (12, 498, 1000000, 2132), (12, 535, -100000, 2166), (12, 537, 100000, 2167), (12, 539, 1000, 2161), (12, 541, 3, 2162), (12, 578, 99999, 2196), (12, 589, 9, 2213), (12, 601, 24, 2250), (12, 615, 16, 2291), (12, 623, 134455, 2304), (12, 625, 8121, 2305), (12, 627, 28411, 2306), (12, 629, 134456, 2307), (12, 637, 60, 2324), (12, 651, 20, 2355)]
theorem KL_ok : ∀ q ∈ KL, tables_1[q.2.2.2]? = some (.constantLong (oN q.1) q.2.1 (Int64.ofInt q.2.2.1)) ∧ goodWord (.constantLong (oN q.1) q.2.1 (Int64.ofInt q.2.2.1)) = true := by decide +kernel
def CT : List (Nat × Nat × Nat × Nat) := [(0, 13, 1, 31), (0, 20, 2, 71), (0, 27, 5, 211), (0, 34, 6, 277), (0, 41, 7, 303), (0, 48, 8, 353), (0, 55, 9, 418), (0, 62, 10, 440), (0, 69, 11, 471), (2, 15, 3, 77), (2, 26, 4, 162), (16, 7, 0, 23), (16, 10, 12, 1460)]
theorem CT_ok : ∀ q ∈ CT, (tables_1[q.2.2.2]? = some (.classLink (oN q.1) q.2.1 (oN q.2.2.1)) ∧ goodWord (.classLink (oN q.1) q.2.1 (oN q.2.2.1)) = true) ∧ q.2.2.1 < 13 := by decide +kernel
def OT : List (Nat × Nat × Nat) := [(0, 1, 28), (6, 3, 282), (8, 3, 358), (11, 3, 476), (2, 3, 76), (10, 3, 445), (5, 3, 216), (1, 3, 36), (4, 3, 167), (7, 5, 308), (3, 3, 83), (9, 3, 423), (12, 1, 1465)]
theorem OT_ok : ∀ q ∈ OT, tables_1[q.2.2]? = some (.methodLink (oN q.1) q.2.1 objectInit) ∧ goodWord (.methodLink (oN q.1) q.2.1 objectInit) = true := by decide +kernel
theorem OI_ok : tables_1[29]? = some (.instanceMethod objectInit) ∧ tables_1[30]? = some (.code objectInit ⟨#[0xb1]⟩ 1 none) ∧ goodWord (.instanceMethod objectInit) = true ∧ goodWord (.code objectInit ⟨#[0xb1]⟩ 1 none) = true := by decide +kernel
def AT : List (Nat × Nat × Nat) := [(5, 80, 1015), (3, 50, 601)]
theorem AT_ok : ∀ q ∈ AT, tables_1[q.2.2]? = some (.methodLink (oN q.1) q.2.1 arraycopyName) ∧ goodWord (.methodLink (oN q.1) q.2.1 arraycopyName) = true := by decide +kernel
def mname (k : Nat) : MethodName := if k = 79 then Lib.Math.max.name else if k = 89 then Lib.Math.min.name else Lib.Math.abs.name
def XT : List (Nat × Nat × Nat × Nat) := [(11, 47, 98, 1428), (2, 144, 79, 919), (7, 73, 98, 893), (7, 81, 79, 900), (7, 95, 89, 905), (3, 40, 89, 598)]
theorem XT_ok : ∀ q ∈ XT, tables_1[q.2.2.2]? = some (.methodLink (oN q.1) q.2.1 (mname q.2.2.1)) ∧ goodWord (.methodLink (oN q.1) q.2.1 (mname q.2.2.1)) = true := by decide +kernel
theorem XI_ok : (tables_1[15]? = some (.initialized "java/lang/Math") ∧ goodWord (.initialized "java/lang/Math") = true) ∧ (tables_1[701]? = some (.static Lib.Math.max.name) ∧ goodWord (.static Lib.Math.max.name) = true) ∧ (tables_1[599]? = some (.static Lib.Math.min.name) ∧ goodWord (.static Lib.Math.min.name) = true) ∧ (tables_1[894]? = some (.static Lib.Math.abs.name) ∧ goodWord (.static Lib.Math.abs.name) = true) := by decide +kernel
theorem XC_ok : (tables_1[702]? = some (.code Lib.Math.max.name Lib.Math.max.code 2 (some .int)) ∧ goodWord (.code Lib.Math.max.name Lib.Math.max.code 2 (some .int)) = true) ∧ (tables_1[600]? = some (.code Lib.Math.min.name Lib.Math.min.code 2 (some .int)) ∧ goodWord (.code Lib.Math.min.name Lib.Math.min.code 2 (some .int)) = true) ∧ (tables_1[895]? = some (.code Lib.Math.abs.name Lib.Math.abs.code 1 (some .int)) ∧ goodWord (.code Lib.Math.abs.name Lib.Math.abs.code 1 (some .int)) = true) := by decide +kernel
theorem AI_ok : tables_1[603]? = some (.native arraycopyName) ∧ tables_1[602]? = some (.static arraycopyName) ∧ tables_1[16]? = some (.initialized "java/lang/System") ∧ goodWord (.native arraycopyName) = true ∧ goodWord (.static arraycopyName) = true ∧ goodWord (.initialized "java/lang/System") = true := by decide +kernel
theorem AC_byte : Cond.arrayClass .byte ∈ wT := wT_t (i := 69) (by decide +kernel) (by decide +kernel)
theorem AC_int : Cond.arrayClass .int ∈ wT := wT_t (i := 70) (by decide +kernel) (by decide +kernel)
theorem AC_long : Cond.arrayClass .long ∈ wT := wT_t (i := 161) (by decide +kernel) (by decide +kernel)
theorem AC_boolean : Cond.arrayClass .boolean ∈ wT := wT_t (i := 417) (by decide +kernel) (by decide +kernel)
theorem AO_at : tables_1[78]? = some (.arrayOver (.object (oN 3))) := by decide +kernel
