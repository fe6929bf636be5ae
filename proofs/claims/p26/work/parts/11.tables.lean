/-! printed by my own program (wip/gen/tables.py): the classes, the methods, the places of their words -/
def q_F0 : u_T := fun k => match k with
  | 0 => ("MarshCourt$Bank", "cells", "[I", true)
  | 1 => ("MarshCourt$Bank", "kinds", "[I", true)
  | 2 => ("MarshCourt$Bank", "heights", "[I", true)
  | 3 => ("MarshCourt$Bank", "sluices", "[I", true)
  | 4 => ("MarshCourt$Bank", "breaks", "[I", true)
  | 5 => ("MarshCourt$Bank", "worn", "[I", true)
  | 6 => ("MarshCourt$Bank", "viewed", "[I", true)
  | 7 => ("MarshCourt$Bank", "brokeNow", "[I", true)
  | 8 => ("MarshCourt$Bank", "mended", "[I", true)
  | _ => ("MarshCourt$Bank", "size", "I", false)
def q_H0 : Nat → FieldType := fun k => match k with
  | 0 => .array .int
  | 1 => .array .int
  | 2 => .array .int
  | 3 => .array .int
  | 4 => .array .int
  | 5 => .array .int
  | 6 => .array .int
  | 7 => .array .int
  | 8 => .array .int
  | _ => .int
def q_F1 : u_T := fun k => match k with
  | 0 => ("MarshCourt$Courts", "entered", "[LMarshCourt$Custom;", true)
  | 1 => ("MarshCourt$Courts", "empty", "LMarshCourt$Custom;", true)
  | _ => ("MarshCourt$Courts", "size", "I", false)
def q_H1 : Nat → FieldType := fun k => match k with
  | 0 => .array (.object "MarshCourt$Custom")
  | 1 => .object "MarshCourt$Custom"
  | _ => .int
def q_F2 : u_T := fun k => match k with
  | 0 => ("MarshCourt$Custom", "day", "I", false)
  | 1 => ("MarshCourt$Custom", "height", "I", false)
  | 2 => ("MarshCourt$Custom", "fine", "I", false)
  | 3 => ("MarshCourt$Custom", "views", "I", false)
  | 4 => ("MarshCourt$Custom", "scots", "I", false)
  | 5 => ("MarshCourt$Custom", "firsts", "[I", true)
  | 6 => ("MarshCourt$Custom", "lasts", "[I", true)
  | 7 => ("MarshCourt$Custom", "hows", "[I", true)
  | _ => ("MarshCourt$Custom", "rules", "I", false)
def q_H2 : Nat → FieldType := fun k => match k with
  | 0 => .int
  | 1 => .int
  | 2 => .int
  | 3 => .int
  | 4 => .int
  | 5 => .array .int
  | 6 => .array .int
  | 7 => .array .int
  | _ => .int
def q_F3 : u_T := fun k => match k with
  | 0 => ("MarshCourt$Faults", "owners", "[I", true)
  | 1 => ("MarshCourt$Faults", "begun", "[I", true)
  | 2 => ("MarshCourt$Faults", "ended", "[I", true)
  | 3 => ("MarshCourt$Faults", "missing", "[I", true)
  | 4 => ("MarshCourt$Faults", "daily", "[I", true)
  | 5 => ("MarshCourt$Faults", "heights", "[I", true)
  | 6 => ("MarshCourt$Faults", "open", "[I", true)
  | _ => ("MarshCourt$Faults", "size", "I", false)
def q_H3 : Nat → FieldType := fun k => match k with
  | 0 => .array .int
  | 1 => .array .int
  | 2 => .array .int
  | 3 => .array .int
  | 4 => .array .int
  | 5 => .array .int
  | 6 => .array .int
  | _ => .int
def q_F4 : u_T := fun k => match k with
  | 0 => ("MarshCourt$Herds", "places", "[I", true)
  | 1 => ("MarshCourt$Herds", "drowned", "[Z", true)
  | _ => ("MarshCourt$Herds", "size", "I", false)
def q_H4 : Nat → FieldType := fun k => match k with
  | 0 => .array .int
  | 1 => .array .boolean
  | _ => .int
def q_F5 : u_T := fun k => match k with
  | 0 => ("MarshCourt$Land", "levels", "[I", true)
  | 1 => ("MarshCourt$Land", "waters", "[I", true)
  | 2 => ("MarshCourt$Land", "peaks", "[I", true)
  | 3 => ("MarshCourt$Land", "salts", "[I", true)
  | 4 => ("MarshCourt$Land", "shut", "[Z", true)
  | 5 => ("MarshCourt$Land", "came", "I", false)
  | 6 => ("MarshCourt$Land", "went", "I", false)
  | _ => ("MarshCourt$Land", "seaCame", "Z", false)
def q_H5 : Nat → FieldType := fun k => match k with
  | 0 => .array .int
  | 1 => .array .int
  | 2 => .array .int
  | 3 => .array .int
  | 4 => .array .boolean
  | 5 => .int
  | 6 => .int
  | _ => .boolean
def q_F6 : u_T := fun k => match k with
  | 0 => ("MarshCourt$Plan", "out", "[J", true)
  | 1 => ("MarshCourt$Plan", "single", "[J", true)
  | 2 => ("MarshCourt$Plan", "pair", "[J", true)
  | 3 => ("MarshCourt$Plan", "worth", "I", false)
  | 4 => ("MarshCourt$Plan", "set", "I", false)
  | _ => ("MarshCourt$Plan", "hands", "I", false)
def q_H6 : Nat → FieldType := fun k => match k with
  | 0 => .array .long
  | 1 => .array .long
  | 2 => .array .long
  | 3 => .int
  | 4 => .int
  | _ => .int
def q_F7 : u_T := fun k => match k with
  | 0 => ("MarshCourt$Sales", "cells", "[I", true)
  | 1 => ("MarshCourt$Sales", "sellers", "[I", true)
  | 2 => ("MarshCourt$Sales", "buyers", "[I", true)
  | 3 => ("MarshCourt$Sales", "parts", "[I", true)
  | 4 => ("MarshCourt$Sales", "days", "[I", true)
  | _ => ("MarshCourt$Sales", "size", "I", false)
def q_H7 : Nat → FieldType := fun k => match k with
  | 0 => .array .int
  | 1 => .array .int
  | 2 => .array .int
  | 3 => .array .int
  | 4 => .array .int
  | _ => .int
def q_F8 : u_T := fun k => match k with
  | 0 => ("MarshCourt$Shares", "parts", "[I", true)
  | 1 => ("MarshCourt$Shares", "dealt", "[I", true)
  | _ => ("MarshCourt$Shares", "rests", "[I", true)
def q_H8 : Nat → FieldType := fun k => match k with
  | 0 => .array .int
  | 1 => .array .int
  | _ => .array .int
def q_F9 : u_T := fun k => match k with
  | 0 => ("MarshCourt$Tape", "bytes", "[I", true)
  | 1 => ("MarshCourt$Tape", "size", "I", false)
  | _ => ("MarshCourt$Tape", "place", "I", false)
def q_H9 : Nat → FieldType := fun k => match k with
  | 0 => .array .int
  | 1 => .int
  | _ => .int
def q_F10 : u_T := fun k => match k with
  | 0 => ("MarshCourt$Ways", "costs", "[I", true)
  | 1 => ("MarshCourt$Ways", "target", "I", false)
  | 2 => ("MarshCourt$Ways", "moves", "I", false)
  | 3 => ("MarshCourt$Ways", "ahead", "I", false)
  | _ => ("MarshCourt$Ways", "behind", "I", false)
def q_H10 : Nat → FieldType := fun k => match k with
  | 0 => .array .int
  | 1 => .int
  | 2 => .int
  | 3 => .int
  | _ => .int
def q_F11 : u_T := fun k => match k with
  | 0 => ("MarshCourt", "land", "LMarshCourt$Land;", true)
  | 1 => ("MarshCourt", "sales", "LMarshCourt$Sales;", true)
  | 2 => ("MarshCourt", "shares", "LMarshCourt$Shares;", true)
  | 3 => ("MarshCourt", "bank", "LMarshCourt$Bank;", true)
  | 4 => ("MarshCourt", "herds", "LMarshCourt$Herds;", true)
  | 5 => ("MarshCourt", "ways", "LMarshCourt$Ways;", true)
  | 6 => ("MarshCourt", "tape", "LMarshCourt$Tape;", true)
  | 7 => ("MarshCourt", "courts", "LMarshCourt$Courts;", true)
  | 8 => ("MarshCourt", "faults", "LMarshCourt$Faults;", true)
  | 9 => ("MarshCourt", "plan", "LMarshCourt$Plan;", true)
  | 10 => ("MarshCourt", "today", "I", false)
  | _ => ("MarshCourt", "tides", "I", false)
def q_H11 : Nat → FieldType := fun k => match k with
  | 0 => .object "MarshCourt$Land"
  | 1 => .object "MarshCourt$Sales"
  | 2 => .object "MarshCourt$Shares"
  | 3 => .object "MarshCourt$Bank"
  | 4 => .object "MarshCourt$Herds"
  | 5 => .object "MarshCourt$Ways"
  | 6 => .object "MarshCourt$Tape"
  | 7 => .object "MarshCourt$Courts"
  | 8 => .object "MarshCourt$Faults"
  | 9 => .object "MarshCourt$Plan"
  | 10 => .int
  | _ => .int
def q_F12 : u_T := fun k => match k with
  | 0 => ("MarshCourtModel", "thrown", "I", false)
  | 1 => ("MarshCourtModel", "level", "[I", true)
  | 2 => ("MarshCourtModel", "water", "[I", true)
  | 3 => ("MarshCourtModel", "peak", "[I", true)
  | 4 => ("MarshCourtModel", "salt", "[I", true)
  | 5 => ("MarshCourtModel", "isShutRight", "[Z", true)
  | 6 => ("MarshCourtModel", "isShutBelow", "[Z", true)
  | 7 => ("MarshCourtModel", "sales", "I", false)
  | 8 => ("MarshCourtModel", "saleCell", "[I", true)
  | 9 => ("MarshCourtModel", "saleFrom", "[I", true)
  | 10 => ("MarshCourtModel", "saleTo", "[I", true)
  | 11 => ("MarshCourtModel", "saleParts", "[I", true)
  | 12 => ("MarshCourtModel", "saleDay", "[I", true)
  | 13 => ("MarshCourtModel", "rods", "I", false)
  | 14 => ("MarshCourtModel", "rodCell", "[I", true)
  | 15 => ("MarshCourtModel", "kind", "[I", true)
  | 16 => ("MarshCourtModel", "height", "[I", true)
  | 17 => ("MarshCourtModel", "sluice", "[I", true)
  | 18 => ("MarshCourtModel", "broke", "[I", true)
  | 19 => ("MarshCourtModel", "wore", "[I", true)
  | 20 => ("MarshCourtModel", "viewed", "[I", true)
  | 21 => ("MarshCourtModel", "faultOf", "[I", true)
  | 22 => ("MarshCourtModel", "herds", "I", false)
  | 23 => ("MarshCourtModel", "herdAt", "[I", true)
  | 24 => ("MarshCourtModel", "isDrowned", "[Z", true)
  | 25 => ("MarshCourtModel", "day", "I", false)
  | 26 => ("MarshCourtModel", "tides", "I", false)
  | 27 => ("MarshCourtModel", "came", "I", false)
  | 28 => ("MarshCourtModel", "went", "I", false)
  | 29 => ("MarshCourtModel", "tape", "[I", true)
  | 30 => ("MarshCourtModel", "taped", "I", false)
  | 31 => ("MarshCourtModel", "courts", "I", false)
  | 32 => ("MarshCourtModel", "courtDay", "[I", true)
  | 33 => ("MarshCourtModel", "h", "[I", true)
  | 34 => ("MarshCourtModel", "f", "[I", true)
  | 35 => ("MarshCourtModel", "v", "[I", true)
  | 36 => ("MarshCourtModel", "s", "[I", true)
  | 37 => ("MarshCourtModel", "clauses", "[I", true)
  | 38 => ("MarshCourtModel", "clauseA", "[I", true)
  | 39 => ("MarshCourtModel", "clauseB", "[I", true)
  | 40 => ("MarshCourtModel", "clauseHow", "[I", true)
  | 41 => ("MarshCourtModel", "clauseOwner", "[I", true)
  | 42 => ("MarshCourtModel", "faults", "I", false)
  | 43 => ("MarshCourtModel", "faultOwner", "[I", true)
  | 44 => ("MarshCourtModel", "faultDay", "[I", true)
  | 45 => ("MarshCourtModel", "faultEnd", "[I", true)
  | 46 => ("MarshCourtModel", "missing", "[I", true)
  | 47 => ("MarshCourtModel", "faultH", "[I", true)
  | 48 => ("MarshCourtModel", "faultF", "[I", true)
  | 49 => ("MarshCourtModel", "mended", "[I", true)
  | 50 => ("MarshCourtModel", "far", "[I", true)
  | 51 => ("MarshCourtModel", "seaCame", "Z", false)
  | 52 => ("MarshCourtModel", "hasBroken", "[Z", true)
  | 53 => ("MarshCourtModel", "spot", "I", false)
  | 54 => ("MarshCourtModel", "isWrong", "Z", false)
  | 55 => ("MarshCourtModel", "wordFront", "[I", true)
  | 56 => ("MarshCourtModel", "wordOwn", "[I", true)
  | 57 => ("MarshCourtModel", "wordAcres", "[I", true)
  | 58 => ("MarshCourtModel", "dealt", "[I", true)
  | 59 => ("MarshCourtModel", "rest", "[I", true)
  | 60 => ("MarshCourtModel", "most", "[I", true)
  | 61 => ("MarshCourtModel", "set", "[I", true)
  | 62 => ("MarshCourtModel", "nextMost", "[I", true)
  | _ => ("MarshCourtModel", "nextSet", "[I", true)
def q_H12 : Nat → FieldType := fun k => match k with
  | 0 => .int
  | 1 => .array .int
  | 2 => .array .int
  | 3 => .array .int
  | 4 => .array .int
  | 5 => .array .boolean
  | 6 => .array .boolean
  | 7 => .int
  | 8 => .array .int
  | 9 => .array .int
  | 10 => .array .int
  | 11 => .array .int
  | 12 => .array .int
  | 13 => .int
  | 14 => .array .int
  | 15 => .array .int
  | 16 => .array .int
  | 17 => .array .int
  | 18 => .array .int
  | 19 => .array .int
  | 20 => .array .int
  | 21 => .array .int
  | 22 => .int
  | 23 => .array .int
  | 24 => .array .boolean
  | 25 => .int
  | 26 => .int
  | 27 => .int
  | 28 => .int
  | 29 => .array .int
  | 30 => .int
  | 31 => .int
  | 32 => .array .int
  | 33 => .array .int
  | 34 => .array .int
  | 35 => .array .int
  | 36 => .array .int
  | 37 => .array .int
  | 38 => .array .int
  | 39 => .array .int
  | 40 => .array .int
  | 41 => .array .int
  | 42 => .int
  | 43 => .array .int
  | 44 => .array .int
  | 45 => .array .int
  | 46 => .array .int
  | 47 => .array .int
  | 48 => .array .int
  | 49 => .array .int
  | 50 => .array .int
  | 51 => .boolean
  | 52 => .array .boolean
  | 53 => .int
  | 54 => .boolean
  | 55 => .array .int
  | 56 => .array .int
  | 57 => .array .int
  | 58 => .array .int
  | 59 => .array .int
  | 60 => .array .int
  | 61 => .array .int
  | 62 => .array .int
  | _ => .array .int
def q_cl : List vw_C := [("MarshCourt$Bank", q_F0, 10), ("MarshCourt$Courts", q_F1, 3), ("MarshCourt$Custom", q_F2, 9), ("MarshCourt$Faults", q_F3, 8), ("MarshCourt$Herds", q_F4, 3), ("MarshCourt$Land", q_F5, 8), ("MarshCourt$Plan", q_F6, 6), ("MarshCourt$Sales", q_F7, 6), ("MarshCourt$Shares", q_F8, 3), ("MarshCourt$Tape", q_F9, 3), ("MarshCourt$Ways", q_F10, 5), ("MarshCourt", q_F11, 12), ("MarshCourtModel", q_F12, 64)]
def q_yt : List q_Y := [
  (⟨"MarshCourt$Bank", "add", "(III)I"⟩, prog_2_method_2_code, 4, (Option.some Jvm.ClassFile.FieldType.int), 0, 0),
  (⟨"MarshCourt$Bank", "beginTide", "()V"⟩, prog_2_method_3_code, 1, (Option.none : Option Jvm.ClassFile.FieldType), 1, 23),
  (⟨"MarshCourt$Bank", "brokenInTide", "()I"⟩, prog_2_method_4_code, 6, (Option.some Jvm.ClassFile.FieldType.int), 0, 0),
  (⟨"MarshCourt$Bank", "meetSea", "(IIILMarshCourt$Land;)V"⟩, prog_2_method_5_code, 6, (Option.none : Option Jvm.ClassFile.FieldType), 3, 69),
  (⟨"MarshCourt$Bank", "wearOf", "(III)I"⟩, prog_2_method_6_code, 4, (Option.some Jvm.ClassFile.FieldType.int), 0, 0),
  (⟨"MarshCourt$Bank", "breakDown", "(I)V"⟩, prog_2_method_7_code, 4, (Option.none : Option Jvm.ClassFile.FieldType), 2, 46),
  (⟨"MarshCourt$Bank", "wearDown", "(II)V"⟩, prog_2_method_8_code, 4, (Option.none : Option Jvm.ClassFile.FieldType), 1, 23),
  (⟨"MarshCourt$Bank", "runSluice", "(IILMarshCourt$Land;)V"⟩, prog_2_method_9_code, 7, (Option.none : Option Jvm.ClassFile.FieldType), 2, 46),
  (⟨"MarshCourt$Courts", "inForce", "(II)I"⟩, prog_3_method_2_code, 7, (Option.some Jvm.ClassFile.FieldType.int), 1, 23),
  (⟨"MarshCourt$Courts", "customOf", "(I)LMarshCourt$Custom;"⟩, prog_3_method_3_code, 2, (Option.some (Jvm.ClassFile.FieldType.object "MarshCourt$Custom")), 1, 22),
  (⟨"MarshCourt$Custom", "clear", "()V"⟩, prog_4_method_2_code, 1, (Option.none : Option Jvm.ClassFile.FieldType), 0, 0),
  (⟨"MarshCourt$Custom", "addRule", "(III)V"⟩, prog_4_method_3_code, 4, (Option.none : Option Jvm.ClassFile.FieldType), 0, 0),
  (⟨"MarshCourt$Custom", "ruleOf", "(I)I"⟩, prog_4_method_4_code, 3, (Option.some Jvm.ClassFile.FieldType.int), 1, 22),
  (⟨"MarshCourt$Custom", "value", "(I)I"⟩, prog_4_method_5_code, 2, (Option.some Jvm.ClassFile.FieldType.int), 0, 0),
  (⟨"MarshCourt$Faults", "begin", "(IIIILMarshCourt$Custom;)V"⟩, prog_5_method_2_code, 6, (Option.none : Option Jvm.ClassFile.FieldType), 0, 0),
  (⟨"MarshCourt$Faults", "end", "(II)V"⟩, prog_5_method_3_code, 3, (Option.none : Option Jvm.ClassFile.FieldType), 0, 0),
  (⟨"MarshCourt$Faults", "endIfMended", "(III)V"⟩, prog_5_method_4_code, 4, (Option.none : Option Jvm.ClassFile.FieldType), 1, 22),
  (⟨"MarshCourt$Faults", "fineSoFar", "(II)I"⟩, prog_5_method_5_code, 4, (Option.some Jvm.ClassFile.FieldType.int), 0, 0),
  (⟨"MarshCourt$Faults", "owedBy", "(II)I"⟩, prog_5_method_6_code, 5, (Option.some Jvm.ClassFile.FieldType.int), 1, 23),
  (⟨"MarshCourt$Faults", "openOnes", "()I"⟩, prog_5_method_7_code, 6, (Option.some Jvm.ClassFile.FieldType.int), 0, 0),
  (⟨"MarshCourt$Herds", "add", "(I)I"⟩, prog_6_method_2_code, 2, (Option.some Jvm.ClassFile.FieldType.int), 0, 0),
  (⟨"MarshCourt$Herds", "alive", "()I"⟩, prog_6_method_3_code, 3, (Option.some Jvm.ClassFile.FieldType.int), 0, 0),
  (⟨"MarshCourt$Herds", "flee", "(LMarshCourt$Land;)V"⟩, prog_6_method_4_code, 3, (Option.none : Option Jvm.ClassFile.FieldType), 4, 93),
  (⟨"MarshCourt$Land", "neighbour", "(II)I"⟩, prog_7_method_2_code, 3, (Option.some Jvm.ClassFile.FieldType.int), 0, 0),
  (⟨"MarshCourt$Land", "gateBetween", "(II)I"⟩, prog_7_method_3_code, 4, (Option.some Jvm.ClassFile.FieldType.int), 1, 23),
  (⟨"MarshCourt$Land", "isShut", "(II)Z"⟩, prog_7_method_4_code, 4, (Option.some Jvm.ClassFile.FieldType.boolean), 2, 46),
  (⟨"MarshCourt$Land", "surface", "(I)I"⟩, prog_7_method_5_code, 2, (Option.some Jvm.ClassFile.FieldType.int), 0, 0),
  (⟨"MarshCourt$Land", "beginTide", "()V"⟩, prog_7_method_6_code, 1, (Option.none : Option Jvm.ClassFile.FieldType), 1, 23),
  (⟨"MarshCourt$Land", "rainOnAll", "(I)V"⟩, prog_7_method_7_code, 3, (Option.none : Option Jvm.ClassFile.FieldType), 0, 0),
  (⟨"MarshCourt$Land", "letSeaIn", "(II)V"⟩, prog_7_method_8_code, 3, (Option.none : Option Jvm.ClassFile.FieldType), 0, 0),
  (⟨"MarshCourt$Land", "letOut", "(II)V"⟩, prog_7_method_9_code, 4, (Option.none : Option Jvm.ClassFile.FieldType), 1, 23),
  (⟨"MarshCourt$Land", "spread", "()V"⟩, prog_7_method_10_code, 2, (Option.none : Option Jvm.ClassFile.FieldType), 3, 70),
  (⟨"MarshCourt$Land", "settle", "(II)V"⟩, prog_7_method_11_code, 4, (Option.none : Option Jvm.ClassFile.FieldType), 2, 47),
  (⟨"MarshCourt$Land", "flow", "(III)V"⟩, prog_7_method_12_code, 5, (Option.none : Option Jvm.ClassFile.FieldType), 1, 23),
  (⟨"MarshCourt$Land", "notePeaks", "()V"⟩, prog_7_method_13_code, 2, (Option.none : Option Jvm.ClassFile.FieldType), 1, 23),
  (⟨"MarshCourt$Land", "endTide", "()V"⟩, prog_7_method_14_code, 2, (Option.none : Option Jvm.ClassFile.FieldType), 1, 23),
  (⟨"MarshCourt$Land", "passYear", "()I"⟩, prog_7_method_15_code, 3, (Option.some Jvm.ClassFile.FieldType.int), 1, 23),
  (⟨"MarshCourt$Land", "allWater", "()I"⟩, prog_7_method_16_code, 6, (Option.some Jvm.ClassFile.FieldType.int), 0, 0),
  (⟨"MarshCourt$Land", "refuge", "(I)I"⟩, prog_7_method_17_code, 5, (Option.some Jvm.ClassFile.FieldType.int), 3, 69),
  (⟨"MarshCourt$Plan", "draw", "(LMarshCourt$Bank;LMarshCourt$Land;II)V"⟩, prog_8_method_2_code, 9, (Option.none : Option Jvm.ClassFile.FieldType), 3, 72),
  (⟨"MarshCourt$Plan", "allNeeds", "(LMarshCourt$Bank;I)I"⟩, prog_8_method_3_code, 4, (Option.some Jvm.ClassFile.FieldType.int), 1, 23),
  (⟨"MarshCourt$Plan", "bestFor", "(I)J"⟩, prog_8_method_4_code, 2, (Option.some Jvm.ClassFile.FieldType.long), 1, 23),
  (⟨"MarshCourt$Plan", "consider", "(IJI)V"⟩, prog_8_method_5_code, 9, (Option.none : Option Jvm.ClassFile.FieldType), 2, 44),
  (⟨"MarshCourt$Plan", "worthOf", "(ILMarshCourt$Land;I)J"⟩, prog_8_method_6_code, 7, (Option.some Jvm.ClassFile.FieldType.long), 1, 23),
  (⟨"MarshCourt$Plan", "handsFor", "(LMarshCourt$Bank;I)I"⟩, prog_8_method_7_code, 5, (Option.some Jvm.ClassFile.FieldType.int), 0, 0),
  (⟨"MarshCourt$Sales", "enter", "(IIIII)V"⟩, prog_9_method_2_code, 6, (Option.none : Option Jvm.ClassFile.FieldType), 0, 0),
  (⟨"MarshCourt$Sales", "partsOf", "(IIII)I"⟩, prog_9_method_3_code, 8, (Option.some Jvm.ClassFile.FieldType.int), 1, 23),
  (⟨"MarshCourt$Sales", "sumParts", "([III)V"⟩, prog_9_method_4_code, 5, (Option.none : Option Jvm.ClassFile.FieldType), 2, 50),
  (⟨"MarshCourt$Sales", "greatestOwner", "(III)I"⟩, prog_9_method_5_code, 8, (Option.some Jvm.ClassFile.FieldType.int), 2, 50),
  (⟨"MarshCourt$Sales", "wouldOwe", "(IIII)Z"⟩, prog_9_method_6_code, 7, (Option.some Jvm.ClassFile.FieldType.boolean), 2, 50),
  (⟨"MarshCourt$Shares", "lay", "(I)V"⟩, prog_10_method_2_code, 5, (Option.none : Option Jvm.ClassFile.FieldType), 1, 22),
  (⟨"MarshCourt$Shares", "greatestRest", "()I"⟩, prog_10_method_3_code, 3, (Option.some Jvm.ClassFile.FieldType.int), 0, 0),
  (⟨"MarshCourt$Shares", "ownerAt", "(I)I"⟩, prog_10_method_4_code, 4, (Option.some Jvm.ClassFile.FieldType.int), 0, 0),
  (⟨"MarshCourt$Tape", "append", "(JI)V"⟩, prog_11_method_2_code, 5, (Option.none : Option Jvm.ClassFile.FieldType), 0, 0),
  (⟨"MarshCourt$Tape", "read", "(LMarshCourt$Custom;)Z"⟩, prog_11_method_3_code, 3, (Option.some Jvm.ClassFile.FieldType.boolean), 9, 193),
  (⟨"MarshCourt$Tape", "peek", "()I"⟩, prog_11_method_4_code, 1, (Option.some Jvm.ClassFile.FieldType.int), 0, 0),
  (⟨"MarshCourt$Tape", "take", "(C)Z"⟩, prog_11_method_5_code, 2, (Option.some Jvm.ClassFile.FieldType.boolean), 1, 20),
  (⟨"MarshCourt$Tape", "takeAll", "(Ljava/lang/String;)Z"⟩, prog_11_method_6_code, 3, (Option.some Jvm.ClassFile.FieldType.boolean), 5, 106),
  (⟨"MarshCourt$Tape", "takeNumber", "(II)I"⟩, prog_11_method_7_code, 5, (Option.some Jvm.ClassFile.FieldType.int), 1, 23),
  (⟨"MarshCourt$Tape", "takeClause", "(LMarshCourt$Custom;)Z"⟩, prog_11_method_8_code, 2, (Option.some Jvm.ClassFile.FieldType.boolean), 8, 172),
  (⟨"MarshCourt$Tape", "takeValue", "(Ljava/lang/String;II)I"⟩, prog_11_method_9_code, 4, (Option.some Jvm.ClassFile.FieldType.int), 6, 128),
  (⟨"MarshCourt$Tape", "takeRule", "(LMarshCourt$Custom;)Z"⟩, prog_11_method_10_code, 5, (Option.some Jvm.ClassFile.FieldType.boolean), 7, 148),
  (⟨"MarshCourt$Tape", "takeHow", "()I"⟩, prog_11_method_11_code, 1, (Option.some Jvm.ClassFile.FieldType.int), 6, 128),
  (⟨"MarshCourt$Ways", "seek", "(LMarshCourt$Land;II)V"⟩, prog_12_method_2_code, 4, (Option.none : Option Jvm.ClassFile.FieldType), 6, 141),
  (⟨"MarshCourt$Ways", "moveCost", "(LMarshCourt$Land;II)I"⟩, prog_12_method_3_code, 3, (Option.some Jvm.ClassFile.FieldType.int), 3, 69),
  (⟨"MarshCourt$Ways", "measure", "(LMarshCourt$Land;I)V"⟩, prog_12_method_4_code, 6, (Option.none : Option Jvm.ClassFile.FieldType), 5, 116),
  (⟨"MarshCourt$Ways", "improve", "(LMarshCourt$Land;I)Z"⟩, prog_12_method_5_code, 6, (Option.some Jvm.ClassFile.FieldType.boolean), 4, 91),
  (⟨"MarshCourt$Ways", "nearest", "(LMarshCourt$Land;I)I"⟩, prog_12_method_6_code, 6, (Option.some Jvm.ClassFile.FieldType.int), 0, 0),
  (⟨"MarshCourt$Ways", "walkToGate", "(LMarshCourt$Land;I)V"⟩, prog_12_method_7_code, 6, (Option.none : Option Jvm.ClassFile.FieldType), 5, 115),
  (⟨"MarshCourt$Ways", "onward", "(LMarshCourt$Land;I)I"⟩, prog_12_method_8_code, 5, (Option.some Jvm.ClassFile.FieldType.int), 4, 91),
  (⟨"MarshCourt", "level", "(II)I"⟩, prog_1_method_2_code, 4, (Option.some Jvm.ClassFile.FieldType.int), 2, 42),
  (⟨"MarshCourt", "cell", "(II)I"⟩, prog_1_method_3_code, 3, (Option.some Jvm.ClassFile.FieldType.int), 2, 42),
  (⟨"MarshCourt", "sell", "(IIIII)I"⟩, prog_1_method_4_code, 6, (Option.some Jvm.ClassFile.FieldType.int), 3, 76),
  (⟨"MarshCourt", "held", "(IIII)I"⟩, prog_1_method_5_code, 6, (Option.some Jvm.ClassFile.FieldType.int), 2, 50),
  (⟨"MarshCourt", "rod", "(III)I"⟩, prog_1_method_6_code, 4, (Option.some Jvm.ClassFile.FieldType.int), 2, 42),
  (⟨"MarshCourt", "sluice", "(II)I"⟩, prog_1_method_7_code, 4, (Option.some Jvm.ClassFile.FieldType.int), 2, 43),
  (⟨"MarshCourt", "about", "(II)I"⟩, prog_1_method_8_code, 3, (Option.some Jvm.ClassFile.FieldType.int), 4, 91),
  (⟨"MarshCourt", "gate", "(III)I"⟩, prog_1_method_9_code, 6, (Option.some Jvm.ClassFile.FieldType.int), 2, 46),
  (⟨"MarshCourt", "herd", "(I)I"⟩, prog_1_method_10_code, 2, (Option.some Jvm.ClassFile.FieldType.int), 2, 42),
  (⟨"MarshCourt", "drive", "(II)I"⟩, prog_1_method_11_code, 5, (Option.some Jvm.ClassFile.FieldType.int), 2, 46),
  (⟨"MarshCourt", "where", "(I)I"⟩, prog_1_method_12_code, 2, (Option.some Jvm.ClassFile.FieldType.int), 2, 43),
  (⟨"MarshCourt", "way", "(III)I"⟩, prog_1_method_13_code, 4, (Option.some Jvm.ClassFile.FieldType.int), 7, 164),
  (⟨"MarshCourt", "tide", "(III)I"⟩, prog_1_method_14_code, 8, (Option.some Jvm.ClassFile.FieldType.int), 6, 139),
  (⟨"MarshCourt", "pass", "(I)I"⟩, prog_1_method_15_code, 2, (Option.some Jvm.ClassFile.FieldType.int), 1, 22),
  (⟨"MarshCourt", "year", "()I"⟩, prog_1_method_16_code, 1, (Option.some Jvm.ClassFile.FieldType.int), 2, 45),
  (⟨"MarshCourt", "feed", "(JI)I"⟩, prog_1_method_17_code, 4, (Option.some Jvm.ClassFile.FieldType.int), 1, 24),
  (⟨"MarshCourt", "court", "(I)I"⟩, prog_1_method_18_code, 4, (Option.some Jvm.ClassFile.FieldType.int), 10, 215),
  (⟨"MarshCourt", "custom", "(III)I"⟩, prog_1_method_19_code, 5, (Option.some Jvm.ClassFile.FieldType.int), 2, 49),
  (⟨"MarshCourt", "mender", "(IIII)I"⟩, prog_1_method_20_code, 5, (Option.some Jvm.ClassFile.FieldType.int), 4, 105),
  (⟨"MarshCourt", "view", "(I)I"⟩, prog_1_method_21_code, 5, (Option.some Jvm.ClassFile.FieldType.int), 4, 105),
  (⟨"MarshCourt", "mend", "(III)I"⟩, prog_1_method_22_code, 4, (Option.some Jvm.ClassFile.FieldType.int), 2, 45),
  (⟨"MarshCourt", "fault", "(II)I"⟩, prog_1_method_23_code, 4, (Option.some Jvm.ClassFile.FieldType.int), 2, 43),
  (⟨"MarshCourt", "fines", "(I)I"⟩, prog_1_method_24_code, 2, (Option.some Jvm.ClassFile.FieldType.int), 2, 47),
  (⟨"MarshCourt", "mended", "(I)I"⟩, prog_1_method_25_code, 2, (Option.some Jvm.ClassFile.FieldType.int), 2, 42),
  (⟨"MarshCourt", "works", "(II)I"⟩, prog_1_method_26_code, 3, (Option.some Jvm.ClassFile.FieldType.int), 4, 100),
  (⟨"MarshCourt", "scot", "(II)I"⟩, prog_1_method_27_code, 3, (Option.some Jvm.ClassFile.FieldType.int), 3, 74),
  (⟨"MarshCourt", "count", "(I)I"⟩, prog_1_method_28_code, 2, (Option.some Jvm.ClassFile.FieldType.int), 1, 25),
  (⟨"MarshCourt", "within", "(III)Z"⟩, prog_1_method_29_code, 3, (Option.some Jvm.ClassFile.FieldType.boolean), 0, 0),
  (⟨"MarshCourt", "isCell", "(I)Z"⟩, prog_1_method_30_code, 1, (Option.some Jvm.ClassFile.FieldType.boolean), 1, 22),
  (⟨"MarshCourt", "isOwner", "(I)Z"⟩, prog_1_method_31_code, 1, (Option.some Jvm.ClassFile.FieldType.boolean), 1, 22),
  (⟨"MarshCourt", "isDay", "(I)Z"⟩, prog_1_method_32_code, 1, (Option.some Jvm.ClassFile.FieldType.boolean), 1, 22),
  (⟨"MarshCourt", "isRod", "(I)Z"⟩, prog_1_method_33_code, 2, (Option.some Jvm.ClassFile.FieldType.boolean), 1, 22),
  (⟨"MarshCourt", "isHerd", "(I)Z"⟩, prog_1_method_34_code, 2, (Option.some Jvm.ClassFile.FieldType.boolean), 1, 22),
  (⟨"MarshCourt", "customNow", "()LMarshCourt$Custom;"⟩, prog_1_method_35_code, 1, (Option.some (Jvm.ClassFile.FieldType.object "MarshCourt$Custom")), 2, 49),
  (⟨"MarshCourt", "isDue", "(I)Z"⟩, prog_1_method_36_code, 3, (Option.some Jvm.ClassFile.FieldType.boolean), 3, 69),
  (⟨"MarshCourt", "runHour", "(III)V"⟩, prog_1_method_37_code, 5, (Option.none : Option Jvm.ClassFile.FieldType), 5, 115),
  (⟨"MarshCourt", "whoMends", "(IIII)I"⟩, prog_1_method_38_code, 9, (Option.some Jvm.ClassFile.FieldType.int), 3, 77),
  (⟨"MarshCourtModel", "in", "(III)Z"⟩, prog_14_method_3_code, 3, (Option.some Jvm.ClassFile.FieldType.boolean), 0, 0),
  (⟨"MarshCourtModel", "isCell", "(I)Z"⟩, prog_14_method_4_code, 1, (Option.some Jvm.ClassFile.FieldType.boolean), 1, 22),
  (⟨"MarshCourtModel", "isOwner", "(I)Z"⟩, prog_14_method_5_code, 1, (Option.some Jvm.ClassFile.FieldType.boolean), 1, 22),
  (⟨"MarshCourtModel", "isRod", "(I)Z"⟩, prog_14_method_6_code, 2, (Option.some Jvm.ClassFile.FieldType.boolean), 1, 22),
  (⟨"MarshCourtModel", "level", "(II)I"⟩, prog_14_method_7_code, 4, (Option.some Jvm.ClassFile.FieldType.int), 2, 42),
  (⟨"MarshCourtModel", "surface", "(I)I"⟩, prog_14_method_8_code, 2, (Option.some Jvm.ClassFile.FieldType.int), 0, 0),
  (⟨"MarshCourtModel", "cell", "(II)I"⟩, prog_14_method_9_code, 3, (Option.some Jvm.ClassFile.FieldType.int), 2, 42),
  (⟨"MarshCourtModel", "heldOf", "(IIII)I"⟩, prog_14_method_10_code, 7, (Option.some Jvm.ClassFile.FieldType.int), 0, 0),
  (⟨"MarshCourtModel", "heldAll", "(III)I"⟩, prog_14_method_11_code, 6, (Option.some Jvm.ClassFile.FieldType.int), 1, 26),
  (⟨"MarshCourtModel", "sell", "(IIIII)I"⟩, prog_14_method_12_code, 7, (Option.some Jvm.ClassFile.FieldType.int), 2, 42),
  (⟨"MarshCourtModel", "held", "(IIII)I"⟩, prog_14_method_13_code, 5, (Option.some Jvm.ClassFile.FieldType.int), 2, 51),
  (⟨"MarshCourtModel", "rod", "(III)I"⟩, prog_14_method_14_code, 4, (Option.some Jvm.ClassFile.FieldType.int), 2, 42),
  (⟨"MarshCourtModel", "sluice", "(II)I"⟩, prog_14_method_15_code, 4, (Option.some Jvm.ClassFile.FieldType.int), 2, 43),
  (⟨"MarshCourtModel", "isDue", "(I)Z"⟩, prog_14_method_16_code, 3, (Option.some Jvm.ClassFile.FieldType.boolean), 1, 24),
  (⟨"MarshCourtModel", "about", "(II)I"⟩, prog_14_method_17_code, 3, (Option.some Jvm.ClassFile.FieldType.int), 2, 46),
  (⟨"MarshCourtModel", "beside", "(II)I"⟩, prog_14_method_18_code, 2, (Option.some Jvm.ClassFile.FieldType.int), 0, 0),
  (⟨"MarshCourtModel", "isOpen", "(II)Z"⟩, prog_14_method_19_code, 3, (Option.some Jvm.ClassFile.FieldType.boolean), 0, 0),
  (⟨"MarshCourtModel", "wayTo", "(II)I"⟩, prog_14_method_20_code, 3, (Option.some Jvm.ClassFile.FieldType.int), 1, 21),
  (⟨"MarshCourtModel", "gate", "(III)I"⟩, prog_14_method_21_code, 7, (Option.some Jvm.ClassFile.FieldType.int), 2, 43),
  (⟨"MarshCourtModel", "herd", "(I)I"⟩, prog_14_method_22_code, 2, (Option.some Jvm.ClassFile.FieldType.int), 2, 42),
  (⟨"MarshCourtModel", "isHerd", "(I)Z"⟩, prog_14_method_23_code, 2, (Option.some Jvm.ClassFile.FieldType.boolean), 1, 22),
  (⟨"MarshCourtModel", "drive", "(II)I"⟩, prog_14_method_24_code, 5, (Option.some Jvm.ClassFile.FieldType.int), 2, 43),
  (⟨"MarshCourtModel", "where", "(I)I"⟩, prog_14_method_25_code, 2, (Option.some Jvm.ClassFile.FieldType.int), 2, 43),
  (⟨"MarshCourtModel", "reckons", "(IZ)V"⟩, prog_14_method_26_code, 8, (Option.none : Option Jvm.ClassFile.FieldType), 1, 22),
  (⟨"MarshCourtModel", "nearest", "(IIZ)I"⟩, prog_14_method_27_code, 7, (Option.some Jvm.ClassFile.FieldType.int), 2, 49),
  (⟨"MarshCourtModel", "way", "(III)I"⟩, prog_14_method_28_code, 8, (Option.some Jvm.ClassFile.FieldType.int), 3, 75),
  (⟨"MarshCourtModel", "comes", "(II)V"⟩, prog_14_method_29_code, 3, (Option.none : Option Jvm.ClassFile.FieldType), 0, 0),
  (⟨"MarshCourtModel", "wears", "(III)I"⟩, prog_14_method_30_code, 5, (Option.some Jvm.ClassFile.FieldType.int), 0, 0),
  (⟨"MarshCourtModel", "stands", "(III)Z"⟩, prog_14_method_31_code, 6, (Option.some Jvm.ClassFile.FieldType.boolean), 1, 24),
  (⟨"MarshCourtModel", "opens", "(II)V"⟩, prog_14_method_32_code, 6, (Option.none : Option Jvm.ClassFile.FieldType), 1, 22),
  (⟨"MarshCourtModel", "levels", "(II)V"⟩, prog_14_method_33_code, 7, (Option.none : Option Jvm.ClassFile.FieldType), 0, 0),
  (⟨"MarshCourtModel", "flees", "(I)V"⟩, prog_14_method_34_code, 6, (Option.none : Option Jvm.ClassFile.FieldType), 1, 22),
  (⟨"MarshCourtModel", "hour", "(III)V"⟩, prog_14_method_35_code, 5, (Option.none : Option Jvm.ClassFile.FieldType), 2, 49),
  (⟨"MarshCourtModel", "quarters", "(I)I"⟩, prog_14_method_36_code, 1, (Option.some Jvm.ClassFile.FieldType.int), 0, 0),
  (⟨"MarshCourtModel", "tide", "(III)I"⟩, prog_14_method_37_code, 6, (Option.some Jvm.ClassFile.FieldType.int), 3, 73),
  (⟨"MarshCourtModel", "pass", "(I)I"⟩, prog_14_method_38_code, 2, (Option.some Jvm.ClassFile.FieldType.int), 1, 22),
  (⟨"MarshCourtModel", "year", "()I"⟩, prog_14_method_39_code, 3, (Option.some Jvm.ClassFile.FieldType.int), 0, 0),
  (⟨"MarshCourtModel", "feed", "(JI)I"⟩, prog_14_method_40_code, 5, (Option.some Jvm.ClassFile.FieldType.int), 1, 22),
  (⟨"MarshCourtModel", "byteAt", "()I"⟩, prog_14_method_41_code, 1, (Option.some Jvm.ClassFile.FieldType.int), 0, 0),
  (⟨"MarshCourtModel", "must", "(I)V"⟩, prog_14_method_42_code, 2, (Option.none : Option Jvm.ClassFile.FieldType), 1, 20),
  (⟨"MarshCourtModel", "isDigit", "()Z"⟩, prog_14_method_43_code, 1, (Option.some Jvm.ClassFile.FieldType.boolean), 1, 22),
  (⟨"MarshCourtModel", "number", "(II)I"⟩, prog_14_method_44_code, 5, (Option.some Jvm.ClassFile.FieldType.int), 2, 42),
  (⟨"MarshCourtModel", "word", "([I)V"⟩, prog_14_method_45_code, 3, (Option.none : Option Jvm.ClassFile.FieldType), 2, 41),
  (⟨"MarshCourtModel", "readsRods", "()V"⟩, prog_14_method_46_code, 2, (Option.none : Option Jvm.ClassFile.FieldType), 3, 66),
  (⟨"MarshCourtModel", "readsClause", "()V"⟩, prog_14_method_47_code, 3, (Option.none : Option Jvm.ClassFile.FieldType), 4, 87),
  (⟨"MarshCourtModel", "readsCustom", "()V"⟩, prog_14_method_48_code, 3, (Option.none : Option Jvm.ClassFile.FieldType), 5, 109),
  (⟨"MarshCourtModel", "court", "(I)I"⟩, prog_14_method_49_code, 2, (Option.some Jvm.ClassFile.FieldType.int), 6, 131),
  (⟨"MarshCourtModel", "customOf", "(II)I"⟩, prog_14_method_50_code, 5, (Option.some Jvm.ClassFile.FieldType.int), 0, 0),
  (⟨"MarshCourtModel", "hOf", "(I)I"⟩, prog_14_method_51_code, 2, (Option.some Jvm.ClassFile.FieldType.int), 0, 0),
  (⟨"MarshCourtModel", "vOf", "(I)I"⟩, prog_14_method_52_code, 2, (Option.some Jvm.ClassFile.FieldType.int), 0, 0),
  (⟨"MarshCourtModel", "custom", "(III)I"⟩, prog_14_method_53_code, 5, (Option.some Jvm.ClassFile.FieldType.int), 1, 24),
  (⟨"MarshCourtModel", "deals", "(III)V"⟩, prog_14_method_54_code, 8, (Option.none : Option Jvm.ClassFile.FieldType), 2, 51),
  (⟨"MarshCourtModel", "menderOf", "(IIII)I"⟩, prog_14_method_55_code, 9, (Option.some Jvm.ClassFile.FieldType.int), 3, 78),
  (⟨"MarshCourtModel", "mender", "(IIII)I"⟩, prog_14_method_56_code, 5, (Option.some Jvm.ClassFile.FieldType.int), 4, 106),
  (⟨"MarshCourtModel", "endsFault", "(I)V"⟩, prog_14_method_57_code, 2, (Option.none : Option Jvm.ClassFile.FieldType), 0, 0),
  (⟨"MarshCourtModel", "view", "(I)I"⟩, prog_14_method_58_code, 4, (Option.some Jvm.ClassFile.FieldType.int), 4, 106),
  (⟨"MarshCourtModel", "mend", "(III)I"⟩, prog_14_method_59_code, 4, (Option.some Jvm.ClassFile.FieldType.int), 2, 43),
  (⟨"MarshCourtModel", "fineOf", "(I)I"⟩, prog_14_method_60_code, 2, (Option.some Jvm.ClassFile.FieldType.int), 0, 0),
  (⟨"MarshCourtModel", "fault", "(II)I"⟩, prog_14_method_61_code, 4, (Option.some Jvm.ClassFile.FieldType.int), 2, 43),
  (⟨"MarshCourtModel", "fines", "(I)I"⟩, prog_14_method_62_code, 5, (Option.some Jvm.ClassFile.FieldType.int), 2, 42),
  (⟨"MarshCourtModel", "mended", "(I)I"⟩, prog_14_method_63_code, 2, (Option.some Jvm.ClassFile.FieldType.int), 2, 42),
  (⟨"MarshCourtModel", "worthOf", "(II)I"⟩, prog_14_method_64_code, 6, (Option.some Jvm.ClassFile.FieldType.int), 0, 0),
  (⟨"MarshCourtModel", "betters", "(III)V"⟩, prog_14_method_65_code, 4, (Option.none : Option Jvm.ClassFile.FieldType), 0, 0),
  (⟨"MarshCourtModel", "chooses", "(I)V"⟩, prog_14_method_66_code, 8, (Option.none : Option Jvm.ClassFile.FieldType), 1, 25),
  (⟨"MarshCourtModel", "works", "(II)I"⟩, prog_14_method_67_code, 7, (Option.some Jvm.ClassFile.FieldType.int), 2, 52),
  (⟨"MarshCourtModel", "scot", "(II)I"⟩, prog_14_method_68_code, 3, (Option.some Jvm.ClassFile.FieldType.int), 3, 78),
  (⟨"MarshCourtModel", "count", "(I)I"⟩, prog_14_method_69_code, 4, (Option.some Jvm.ClassFile.FieldType.int), 0, 0),
  (⟨"java/lang/String", "length", "()I"⟩, prog_16_method_54_code, 1, (Option.some Jvm.ClassFile.FieldType.int), 1, 20),
  (⟨"java/lang/String", "charAt", "(I)C"⟩, prog_16_method_56_code, 2, (Option.some Jvm.ClassFile.FieldType.char), 4, 85),
  (⟨"java/lang/String", "coder", "()B"⟩, prog_16_method_152_code, 1, (Option.some Jvm.ClassFile.FieldType.byte), 0, 0),
  (⟨"java/lang/String", "isLatin1", "()Z"⟩, prog_16_method_154_code, 1, (Option.some Jvm.ClassFile.FieldType.boolean), 0, 0),
  (⟨"java/lang/String", "checkIndex", "(II)V"⟩, prog_16_method_155_code, 2, (Option.none : Option Jvm.ClassFile.FieldType), 1, 22),
  (⟨"java/lang/StringLatin1", "charAt", "([BI)C"⟩, prog_17_method_2_code, 2, (Option.some Jvm.ClassFile.FieldType.char), 2, 43),
  (⟨"java/lang/StringUTF16", "getChar", "([BI)C"⟩, prog_18_method_5_code, 2, (Option.some Jvm.ClassFile.FieldType.char), 1, 20),
  (⟨"java/lang/StringUTF16", "length", "([B)I"⟩, prog_18_method_6_code, 1, (Option.some Jvm.ClassFile.FieldType.int), 0, 0),
  (⟨"java/lang/StringUTF16", "charAt", "([BI)C"⟩, prog_18_method_83_code, 2, (Option.some Jvm.ClassFile.FieldType.char), 3, 64),
  (⟨"java/lang/StringUTF16", "checkIndex", "(I[B)V"⟩, prog_18_method_91_code, 2, (Option.none : Option Jvm.ClassFile.FieldType), 2, 43),
  (⟨"java/util/Arrays", "fill", "([JJ)V"⟩, prog_19_method_101_code, 5, (Option.none : Option Jvm.ClassFile.FieldType), 0, 0),
  (⟨"java/util/Arrays", "fill", "([II)V"⟩, prog_19_method_103_code, 4, (Option.none : Option Jvm.ClassFile.FieldType), 0, 0),
  (⟨"jdk/internal/util/Preconditions", "checkIndex", "(IILjava/util/function/BiFunction;)I"⟩, prog_20_method_11_code, 3, (Option.some Jvm.ClassFile.FieldType.int), 0, 0)]
def q_zs : List (List Int) := [
  [513, 66, 511, 512, 3, 0],
  [630, 66, 628, 629, 0, 0],
  [704, 66, 702, 703, 0, 0],
  [646, 66, 644, 645, 4, 0],
  [662, 66, 661, 0, 3, 1],
  [654, 66, 653, 10, 1, 0],
  [658, 66, 657, 11, 2, 0],
  [666, 66, 664, 665, 3, 0],
  [537, 70, 535, 536, 2, 0],
  [542, 70, 540, 541, 1, 0],
  [736, 71, 734, 735, 0, 0],
  [822, 71, 820, 821, 3, 0],
  [851, 71, 849, 850, 1, 0],
  [839, 71, 837, 838, 1, 0],
  [885, 72, 883, 884, 5, 0],
  [881, 72, 879, 880, 2, 0],
  [893, 72, 891, 892, 3, 0],
  [902, 72, 900, 901, 2, 0],
  [910, 72, 908, 909, 2, 0],
  [969, 72, 967, 968, 0, 0],
  [565, 67, 563, 564, 1, 0],
  [965, 67, 963, 964, 0, 0],
  [691, 67, 689, 690, 1, 0],
  [557, 63, 556, 0, 2, 1],
  [550, 63, 549, 0, 2, 1],
  [603, 63, 601, 602, 2, 0],
  [475, 63, 473, 474, 1, 0],
  [625, 63, 623, 624, 0, 0],
  [641, 63, 639, 640, 1, 0],
  [650, 63, 648, 649, 2, 0],
  [671, 63, 669, 670, 2, 0],
  [675, 63, 673, 674, 0, 0],
  [679, 63, 678, 12, 2, 0],
  [683, 63, 682, 13, 3, 0],
  [687, 63, 685, 686, 0, 0],
  [700, 63, 698, 699, 0, 0],
  [716, 63, 714, 715, 0, 0],
  [973, 63, 971, 972, 0, 0],
  [695, 63, 693, 694, 1, 0],
  [924, 74, 922, 923, 4, 0],
  [932, 74, 931, 0, 2, 1],
  [945, 74, 944, 25, 1, 0],
  [941, 74, 940, 24, 3, 0],
  [937, 74, 936, 0, 3, 1],
  [952, 74, 951, 26, 2, 0],
  [500, 64, 498, 499, 5, 0],
  [493, 64, 491, 492, 4, 0],
  [860, 64, 858, 859, 3, 0],
  [856, 64, 854, 855, 3, 0],
  [489, 64, 487, 488, 4, 0],
  [864, 65, 862, 863, 1, 0],
  [868, 65, 867, 23, 0, 0],
  [872, 65, 870, 871, 1, 0],
  [724, 69, 722, 723, 2, 0],
  [732, 69, 730, 731, 1, 0],
  [744, 69, 743, 15, 0, 0],
  [740, 69, 739, 14, 1, 0],
  [753, 69, 752, 17, 1, 0],
  [809, 69, 808, 19, 2, 0],
  [748, 69, 747, 16, 1, 0],
  [827, 69, 826, 21, 3, 0],
  [805, 69, 804, 18, 1, 0],
  [815, 69, 814, 20, 0, 0],
  [585, 68, 583, 584, 3, 0],
  [599, 68, 598, 0, 3, 1],
  [589, 68, 588, 4, 2, 0],
  [595, 68, 594, 5, 2, 0],
  [609, 68, 608, 6, 2, 0],
  [613, 68, 612, 7, 2, 0],
  [617, 68, 616, 8, 2, 0],
  [461, 62, 459, 460, 2, 0],
  [471, 62, 469, 470, 2, 0],
  [479, 62, 477, 478, 5, 0],
  [504, 62, 502, 503, 4, 0],
  [509, 62, 507, 508, 3, 0],
  [517, 62, 515, 516, 2, 0],
  [525, 62, 523, 524, 2, 0],
  [547, 62, 545, 546, 3, 0],
  [561, 62, 559, 560, 1, 0],
  [569, 62, 567, 568, 2, 0],
  [577, 62, 575, 576, 1, 0],
  [581, 62, 579, 580, 3, 0],
  [621, 62, 619, 620, 3, 0],
  [708, 62, 706, 707, 1, 0],
  [712, 62, 710, 711, 0, 0],
  [720, 62, 718, 719, 2, 0],
  [728, 62, 726, 727, 1, 0],
  [835, 62, 833, 834, 3, 0],
  [843, 62, 841, 842, 4, 0],
  [876, 62, 874, 875, 1, 0],
  [889, 62, 887, 888, 3, 0],
  [898, 62, 896, 897, 2, 0],
  [906, 62, 904, 905, 1, 0],
  [916, 62, 914, 915, 1, 0],
  [920, 62, 918, 919, 2, 0],
  [956, 62, 954, 955, 2, 0],
  [961, 62, 959, 960, 1, 0],
  [467, 62, 466, 0, 3, 1],
  [464, 62, 463, 0, 1, 1],
  [482, 62, 481, 0, 1, 1],
  [485, 62, 484, 0, 1, 1],
  [521, 62, 520, 0, 1, 0],
  [573, 62, 572, 3, 1, 0],
  [533, 62, 532, 2, 0, 0],
  [529, 62, 528, 1, 1, 0],
  [637, 62, 636, 9, 3, 0],
  [847, 62, 846, 22, 4, 0],
  [1181, 75, 1180, 0, 3, 1],
  [1178, 75, 1177, 0, 1, 1],
  [1196, 75, 1195, 0, 1, 1],
  [1220, 75, 1219, 30, 1, 0],
  [1175, 75, 1173, 1174, 2, 0],
  [1189, 75, 1188, 27, 1, 0],
  [1185, 75, 1183, 1184, 2, 0],
  [1200, 75, 1199, 28, 4, 0],
  [1208, 75, 1207, 29, 3, 0],
  [1193, 75, 1191, 1192, 5, 0],
  [1204, 75, 1202, 1203, 4, 0],
  [1212, 75, 1210, 1211, 3, 0],
  [1216, 75, 1214, 1215, 2, 0],
  [1228, 75, 1227, 31, 1, 0],
  [1224, 75, 1222, 1223, 2, 0],
  [1246, 75, 1245, 0, 2, 1],
  [1250, 75, 1249, 34, 2, 0],
  [1243, 75, 1242, 0, 2, 1],
  [1240, 75, 1238, 1239, 3, 0],
  [1254, 75, 1252, 1253, 1, 0],
  [1262, 75, 1261, 35, 1, 0],
  [1258, 75, 1256, 1257, 2, 0],
  [1266, 75, 1264, 1265, 1, 0],
  [1278, 75, 1277, 37, 2, 0],
  [1274, 75, 1273, 36, 3, 0],
  [1270, 75, 1268, 1269, 3, 0],
  [1293, 75, 1292, 39, 2, 0],
  [1302, 75, 1301, 41, 3, 0],
  [1298, 75, 1297, 40, 3, 0],
  [1306, 75, 1305, 42, 2, 0],
  [1310, 75, 1309, 43, 2, 0],
  [1314, 75, 1313, 44, 1, 0],
  [1289, 75, 1288, 38, 3, 0],
  [1285, 75, 1284, 0, 1, 1],
  [1282, 75, 1280, 1281, 3, 0],
  [1318, 75, 1316, 1317, 1, 0],
  [1322, 75, 1320, 1321, 0, 0],
  [1326, 75, 1324, 1325, 2, 0],
  [1343, 75, 1342, 47, 0, 0],
  [1347, 75, 1346, 48, 1, 0],
  [1359, 75, 1358, 51, 0, 0],
  [1355, 75, 1354, 50, 2, 0],
  [1363, 75, 1362, 52, 1, 0],
  [1351, 75, 1350, 49, 0, 0],
  [1339, 75, 1338, 46, 0, 0],
  [1335, 75, 1334, 45, 0, 0],
  [1331, 75, 1329, 1330, 1, 0],
  [1232, 75, 1231, 32, 2, 0],
  [1388, 75, 1387, 55, 1, 0],
  [1236, 75, 1235, 33, 1, 0],
  [1367, 75, 1365, 1366, 3, 0],
  [1379, 75, 1378, 54, 3, 0],
  [1375, 75, 1374, 53, 4, 0],
  [1371, 75, 1369, 1370, 4, 0],
  [1392, 75, 1391, 56, 1, 0],
  [1384, 75, 1382, 1383, 1, 0],
  [1396, 75, 1394, 1395, 3, 0],
  [1404, 75, 1403, 57, 1, 0],
  [1400, 75, 1398, 1399, 2, 0],
  [1408, 75, 1406, 1407, 1, 0],
  [1413, 75, 1411, 1412, 1, 0],
  [1425, 75, 1424, 59, 2, 0],
  [1429, 75, 1428, 60, 3, 0],
  [1421, 75, 1420, 58, 1, 0],
  [1417, 75, 1415, 1416, 2, 0],
  [1433, 75, 1431, 1432, 2, 0],
  [1438, 75, 1436, 1437, 1, 0],
  [757, 77, 755, 756, 0, 0],
  [767, 77, 765, 766, 1, 0],
  [761, 77, 759, 760, 0, 0],
  [771, 77, 769, 770, 0, 0],
  [777, 77, 776, 0, 2, 1],
  [774, 78, 773, 0, 2, 1],
  [795, 80, 794, 0, 2, 1],
  [791, 80, 790, 0, 1, 1],
  [785, 80, 784, 0, 2, 1],
  [788, 80, 787, 0, 2, 1],
  [928, 73, 927, 0, 2, 1],
  [361, 73, 360, 0, 2, 1],
  [782, 79, 781, 0, 3, 1]]
def q_stt : List (String × String × String × q_V) := [("MarshCourt", "HOURS", "[I", (4, 1)), ("java/lang/String", "COMPACT_STRINGS", "Z", (0, 1)), ("jdk/internal/util/Preconditions", "SIOOBE_FORMATTER", "Ljava/util/function/BiFunction;", (4, 2)), ("java/lang/StringUTF16", "$assertionsDisabled", "Z", (0, 1)), ("java/lang/StringUTF16", "HI_BYTE_SHIFT", "I", (0, 0)), ("java/lang/StringUTF16", "LO_BYTE_SHIFT", "I", (0, 8))]
def q_sts : List (String × Nat × String × Nat) := [("MarshCourt$Tape", 58, "r ", 3), ("MarshCourt$Tape", 67, "h ", 5), ("MarshCourt$Tape", 76, "f ", 7), ("MarshCourt$Tape", 81, "v ", 9), ("MarshCourt$Tape", 86, "s ", 11), ("MarshCourt$Tape", 101, "front", 13), ("MarshCourt$Tape", 103, "acres", 15), ("MarshCourt$Tape", 105, "own ", 17)]
def q_nst : List (String × Nat × MethodName × String) := [("MarshCourt", 9, ⟨"MarshCourt$Land", "<init>", "()V"⟩, "MarshCourt"), ("MarshCourt", 18, ⟨"MarshCourt$Sales", "<init>", "()V"⟩, "MarshCourt"), ("MarshCourt", 25, ⟨"MarshCourt$Shares", "<init>", "()V"⟩, "MarshCourt"), ("MarshCourt", 32, ⟨"MarshCourt$Bank", "<init>", "()V"⟩, "MarshCourt"), ("MarshCourt", 39, ⟨"MarshCourt$Herds", "<init>", "()V"⟩, "MarshCourt"), ("MarshCourt", 46, ⟨"MarshCourt$Ways", "<init>", "()V"⟩, "MarshCourt"), ("MarshCourt", 53, ⟨"MarshCourt$Tape", "<init>", "()V"⟩, "MarshCourt"), ("MarshCourt", 74, ⟨"MarshCourt$Plan", "<init>", "()V"⟩, "MarshCourt"), ("MarshCourt$Courts", 35, ⟨"MarshCourt", "within", "(III)Z"⟩, "MarshCourt"), ("MarshCourt$Tape", 54, ⟨"MarshCourt", "within", "(III)Z"⟩, "MarshCourt"), ("MarshCourt$Custom", 37, ⟨"MarshCourt", "within", "(III)Z"⟩, "MarshCourt")]
def q_T0 : q_T := (q_lay, [], q_cl, lw_tbl, q_stt, q_sts, q_nst, q_yt)
def q_Tm (L : Nat) (xs : Int → Int) : q_T := (q_lay, q_xt L xs, q_cl, lw_tbl, q_stt, q_sts, q_nst, q_yt)
/-- a method's table, checked from a place on -/
def q_mc (T : q_T) (zs : List (List Int)) (y : q_Y) (code : List q_I) : Nat → List q_I → Bool
  | i, ins :: r => Nat.beq ins.1 i && q_ck T y.1.cls y.2.1 y.2.2.2.1 zs y.2.2.2.2.1 y.2.2.2.2.2 code ins && q_mc T zs y code (i + 1) r
  | _, [] => true
theorem q_mc_ok {T : q_T} {zs : List (List Int)} {y : q_Y} {code : List q_I} : ∀ (l : List q_I) (j : Nat), q_mc T zs y code j l = true → ∀ (i : Nat) (ins : q_I), l[i]? = some ins → ins.1 = j + i ∧ q_ck T y.1.cls y.2.1 y.2.2.2.1 zs y.2.2.2.2.1 y.2.2.2.2.2 code ins = true
  | [], _, _, i, ins, hi => by simp at hi
  | x :: r, j, h, i, ins, hi => by
    unfold q_mc at h
    obtain ⟨h1, h2⟩ := Bool.and_eq_true_iff.mp h
    obtain ⟨h1, h3⟩ := Bool.and_eq_true_iff.mp h1
    match i, hi with
    | 0, hi => cases hi; exact ⟨Nat.eq_of_beq_eq_true h1, h3⟩
    | i + 1, hi =>
      obtain ⟨a1, a2⟩ := q_mc_ok r (j + 1) h2 i ins hi
      exact ⟨by omega, a2⟩
def q_mK (T : q_T) (zs : List (List Int)) (y : q_Y) (m0 : q_M) : Bool := Nat.beq m0.2 y.2.2.1 && Nat.beq (q_pc m0.1 0) 0 && q_mc T zs y m0.1 0 m0.1
theorem q_mK_ok {T : q_T} {zs : List (List Int)} {y : q_Y} {m0 : q_M} (h : q_mK T zs y m0 = true) : q_mOK T zs y m0 := by
  unfold q_mK at h
  obtain ⟨h1, h2⟩ := Bool.and_eq_true_iff.mp h
  obtain ⟨h1, h3⟩ := Bool.and_eq_true_iff.mp h1
  refine ⟨Nat.eq_of_beq_eq_true h1, Nat.eq_of_beq_eq_true h3, fun i ins hi => ?_⟩
  obtain ⟨a1, a2⟩ := q_mc_ok m0.1 0 h2 i ins hi
  exact ⟨by omega, a2⟩
theorem q_ck_T {L : Nat} {xs : Int → Int} : @q_ck (q_Tm L xs) = @q_ck q_T0 := rfl

