/-! THE PROGRAM (1): written by program: classes, their fields, where their words stand. -/
def mz_ch (c : Nat) : List Jvm.Cond := if c = 0 then k2_sels lw_privs else mz_ct c
theorem mz_hasT {c i : Nat} {w : Jvm.Cond} (h : mz_has (mz_ch c) i w = true) : w ∈ lw_tbl := by
  have h1 := mz_has_mem h
  unfold mz_ch at h1
  split at h1
  · exact List.mem_append_left _ h1
  · exact List.mem_append_right _ (mz_ct_in h1)
def mz_cn0 (o : Nat) : String := match o with
  | 0 => "KeptHouse$Access"
  | 1 => "KeptHouse$Books"
  | 2 => "KeptHouse$Care"
  | 3 => "KeptHouse$Climate"
  | 4 => "KeptHouse$Keeper"
  | 5 => "KeptHouse$Plan"
  | 6 => "KeptHouse$Program"
  | 7 => "KeptHouse$Reader"
  | 8 => "KeptHouse$Store"
  | 9 => "KeptHouse$Supply"
  | 10 => "KeptHouse$Watch"
  | 11 => "KeptHouse"
  | 12 => "KeptHouseModel"
  | 13 => "KeptHouseLaw"
  | 14 => "java/util/Arrays"
  | 15 => "java/lang/Math"
  | _ => ""
def mzTl0 : List (String × String × String × Bool) := [("KeptHouse$Access", "doors", "[I", true), ("KeptHouse$Access", "doorStoreys", "[I", true), ("KeptHouse$Access", "doorEdges", "[I", true), ("KeptHouse$Access", "cards", "[I", true), ("KeptHouse$Access", "froms", "[I", true), ("KeptHouse$Access", "tos", "[I", true), ("KeptHouse$Access", "blocked", "[I", true), ("KeptHouse$Access", "rights", "[I", true), ("KeptHouse$Access", "where", "[I", true), ("KeptHouse$Access", "rows", "[[I", true), ("KeptHouse$Access", "logged", "I", false)]
def mzT0 : u_T := fun k => mzTl0.getD k ("", "", "", false)
def mzY0 : Nat → FieldType := fun k => [(.array .int), (.array .int), (.array .int), (.array .int), (.array .int), (.array .int), (.array .int), (.array .int), (.array .int), (.array (.array .int)), .int].getD k .int
def mzK0 : List Nat := [2, 2, 2, 2, 2, 2, 2, 2, 2, 2, 0]
def mzH0 : List (Nat × Nat) := [(2, 216), (2, 218), (2, 220), (2, 222), (2, 224), (2, 226), (2, 228), (2, 230), (2, 232), (2, 234), (2, 236)]
def mzTl1 : List (String × String × String × Bool) := [("KeptHouse$Books", "time", "I", false), ("KeptHouse$Books", "cash", "J", false), ("KeptHouse$Books", "lost", "J", false), ("KeptHouse$Books", "gas", "I", false), ("KeptHouse$Books", "care", "I", false), ("KeptHouse$Books", "meters", "[[I", true), ("KeptHouse$Books", "balance", "[J", true), ("KeptHouse$Books", "bill", "[J", true), ("KeptHouse$Books", "prices", "[I", true), ("KeptHouse$Books", "numbers", "[J", true), ("KeptHouse$Books", "shares", "[J", true), ("KeptHouse$Books", "rests", "[J", true)]
def mzT1 : u_T := fun k => mzTl1.getD k ("", "", "", false)
def mzY1 : Nat → FieldType := fun k => [.int, .long, .long, .int, .int, (.array (.array .int)), (.array .long), (.array .long), (.array .int), (.array .long), (.array .long), (.array .long)].getD k .int
def mzK1 : List Nat := [0, 1, 1, 0, 0, 2, 2, 2, 2, 2, 2, 2]
def mzH1 : List (Nat × Nat) := [(3, 82), (3, 84), (3, 86), (3, 88), (3, 90), (3, 92), (3, 94), (3, 96), (3, 98), (3, 100), (3, 102), (3, 104)]
def mzTl2 : List (String × String × String × Bool) := [("KeptHouse$Care", "tickets", "[[I", true), ("KeptHouse$Care", "there", "[I", true), ("KeptHouse$Care", "nextNumber", "I", false), ("KeptHouse$Care", "parts", "[[I", true), ("KeptHouse$Care", "orders", "[[I", true), ("KeptHouse$Care", "orderCount", "I", false), ("KeptHouse$Care", "visits", "[I", true), ("KeptHouse$Care", "visited", "[I", true), ("KeptHouse$Care", "tourPlaces", "[[I", true), ("KeptHouse$Care", "tourTimes", "[[I", true), ("KeptHouse$Care", "backTimes", "[I", true), ("KeptHouse$Care", "chosen", "[I", true), ("KeptHouse$Care", "leastWays", "[[I", true)]
def mzT2 : u_T := fun k => mzTl2.getD k ("", "", "", false)
def mzY2 : Nat → FieldType := fun k => [(.array (.array .int)), (.array .int), .int, (.array (.array .int)), (.array (.array .int)), .int, (.array .int), (.array .int), (.array (.array .int)), (.array (.array .int)), (.array .int), (.array .int), (.array (.array .int))].getD k .int
def mzK2 : List Nat := [2, 2, 0, 2, 2, 0, 2, 2, 2, 2, 2, 2, 2]
def mzH2 : List (Nat × Nat) := [(3, 23), (3, 25), (3, 27), (3, 29), (3, 31), (3, 33), (3, 35), (3, 37), (3, 39), (3, 41), (3, 43), (3, 45), (3, 47)]
def mzTl3 : List (String × String × String × Bool) := [("KeptHouse$Climate", "weather", "[I", true), ("KeptHouse$Climate", "sun", "[I", true), ("KeptHouse$Climate", "heat", "[J", true), ("KeptHouse$Climate", "stale", "[J", true), ("KeptHouse$Climate", "moist", "[J", true), ("KeptHouse$Climate", "smoke", "[J", true), ("KeptHouse$Climate", "mould", "[I", true), ("KeptHouse$Climate", "flame", "[I", true), ("KeptHouse$Climate", "fire", "Z", false), ("KeptHouse$Climate", "sums", "[J", true), ("KeptHouse$Climate", "warmths", "[J", true), ("KeptHouse$Climate", "needs", "[J", true), ("KeptHouse$Climate", "shares", "[J", true), ("KeptHouse$Climate", "rests", "[J", true), ("KeptHouse$Climate", "drift", "[J", true), ("KeptHouse$Climate", "before", "[I", true)]
def mzT3 : u_T := fun k => mzTl3.getD k ("", "", "", false)
def mzY3 : Nat → FieldType := fun k => [(.array .int), (.array .int), (.array .long), (.array .long), (.array .long), (.array .long), (.array .int), (.array .int), .boolean, (.array .long), (.array .long), (.array .long), (.array .long), (.array .long), (.array .long), (.array .int)].getD k .int
def mzK3 : List Nat := [2, 2, 2, 2, 2, 2, 2, 2, 3, 2, 2, 2, 2, 2, 2, 2]
def mzH3 : List (Nat × Nat) := [(2, 116), (2, 118), (2, 120), (2, 122), (2, 124), (2, 126), (2, 128), (2, 130), (2, 132), (2, 134), (2, 136), (2, 138), (2, 140), (2, 142), (2, 144), (2, 146)]
def mzTl4 : List (String × String × String × Bool) := [("KeptHouse$Keeper", "plan", "LKeptHouse$Plan;", true), ("KeptHouse$Keeper", "program", "LKeptHouse$Program;", true), ("KeptHouse$Keeper", "supply", "LKeptHouse$Supply;", true), ("KeptHouse$Keeper", "climate", "LKeptHouse$Climate;", true), ("KeptHouse$Keeper", "watch", "LKeptHouse$Watch;", true), ("KeptHouse$Keeper", "access", "LKeptHouse$Access;", true), ("KeptHouse$Keeper", "care", "LKeptHouse$Care;", true), ("KeptHouse$Keeper", "books", "LKeptHouse$Books;", true), ("KeptHouse$Keeper", "store", "LKeptHouse$Store;", true), ("KeptHouse$Keeper", "tape", "[I", true), ("KeptHouse$Keeper", "tapeLength", "I", false), ("KeptHouse$Keeper", "reel", "[I", true), ("KeptHouse$Keeper", "reelLength", "I", false), ("KeptHouse$Keeper", "fresh", "[I", true), ("KeptHouse$Keeper", "freshThere", "[I", true)]
def mzT4 : u_T := fun k => mzTl4.getD k ("", "", "", false)
def mzY4 : Nat → FieldType := fun k => [(.object "KeptHouse$Plan"), (.object "KeptHouse$Program"), (.object "KeptHouse$Supply"), (.object "KeptHouse$Climate"), (.object "KeptHouse$Watch"), (.object "KeptHouse$Access"), (.object "KeptHouse$Care"), (.object "KeptHouse$Books"), (.object "KeptHouse$Store"), (.array .int), .int, (.array .int), .int, (.array .int), (.array .int)].getD k .int
def mzK4 : List Nat := [2, 2, 2, 2, 2, 2, 2, 2, 2, 2, 0, 2, 0, 2, 2]
def mzH4 : List (Nat × Nat) := [(3, 214), (3, 216), (3, 218), (3, 220), (3, 222), (3, 224), (3, 226), (3, 228), (3, 230), (3, 232), (3, 234), (3, 236), (3, 238), (4, 0), (4, 2)]
def mzTl5 : List (String × String × String × Bool) := [("KeptHouse$Plan", "edges", "[I", true), ("KeptHouse$Plan", "drafts", "[[I", true), ("KeptHouse$Plan", "bases", "[[I", true), ("KeptHouse$Plan", "version", "I", false), ("KeptHouse$Plan", "trial", "[I", true), ("KeptHouse$Plan", "trialOf", "[I", true), ("KeptHouse$Plan", "queue", "[I", true), ("KeptHouse$Plan", "count", "I", false), ("KeptHouse$Plan", "of", "[I", true), ("KeptHouse$Plan", "facts", "[[I", true), ("KeptHouse$Plan", "cells", "[I", true), ("KeptHouse$Plan", "weights", "[I", true), ("KeptHouse$Plan", "pairs", "[[I", true), ("KeptHouse$Plan", "pairCount", "I", false), ("KeptHouse$Plan", "damp", "[I", true), ("KeptHouse$Plan", "flats", "[I", true), ("KeptHouse$Plan", "hearts", "[I", true), ("KeptHouse$Plan", "areas", "[I", true), ("KeptHouse$Plan", "people", "[I", true)]
def mzT5 : u_T := fun k => mzTl5.getD k ("", "", "", false)
def mzY5 : Nat → FieldType := fun k => [(.array .int), (.array (.array .int)), (.array (.array .int)), .int, (.array .int), (.array .int), (.array .int), .int, (.array .int), (.array (.array .int)), (.array .int), (.array .int), (.array (.array .int)), .int, (.array .int), (.array .int), (.array .int), (.array .int), (.array .int)].getD k .int
def mzK5 : List Nat := [2, 2, 2, 0, 2, 2, 2, 0, 2, 2, 2, 2, 2, 0, 2, 2, 2, 2, 2]
def mzH5 : List (Nat × Nat) := [(1, 96), (1, 98), (1, 100), (1, 102), (1, 104), (1, 106), (1, 108), (1, 110), (1, 112), (1, 114), (1, 116), (1, 118), (1, 120), (1, 122), (1, 124), (1, 126), (1, 128), (1, 130), (1, 132)]
def mzTl6 : List (String × String × String × Bool) := [("KeptHouse$Program", "typed", "[I", true), ("KeptHouse$Program", "typedLength", "I", false), ("KeptHouse$Program", "live", "LKeptHouse$Reader;", false), ("KeptHouse$Program", "other", "LKeptHouse$Reader;", false), ("KeptHouse$Program", "wrongFault", "I", false), ("KeptHouse$Program", "wrongPlace", "I", false), ("KeptHouse$Program", "values", "[I", true), ("KeptHouse$Program", "stack", "[I", true), ("KeptHouse$Program", "found", "[I", true), ("KeptHouse$Program", "foundLength", "I", false)]
def mzT6 : u_T := fun k => mzTl6.getD k ("", "", "", false)
def mzY6 : Nat → FieldType := fun k => [(.array .int), .int, (.object "KeptHouse$Reader"), (.object "KeptHouse$Reader"), .int, .int, (.array .int), (.array .int), (.array .int), .int].getD k .int
def mzK6 : List Nat := [2, 0, 2, 2, 0, 0, 2, 2, 2, 0]
def mzH6 : List (Nat × Nat) := [(1, 227), (1, 229), (1, 231), (1, 233), (1, 235), (1, 237), (1, 239), (2, 1), (2, 3), (2, 5)]
def mzTl7 : List (String × String × String × Bool) := [("KeptHouse$Reader", "text", "[I", true), ("KeptHouse$Reader", "length", "I", false), ("KeptHouse$Reader", "steps", "[I", true), ("KeptHouse$Reader", "operands", "[I", true), ("KeptHouse$Reader", "stepCount", "I", false), ("KeptHouse$Reader", "statements", "I", false), ("KeptHouse$Reader", "fault", "I", false), ("KeptHouse$Reader", "faultPlace", "I", false), ("KeptHouse$Reader", "next", "I", false), ("KeptHouse$Reader", "start", "I", false), ("KeptHouse$Reader", "token", "I", false), ("KeptHouse$Reader", "value", "I", false), ("KeptHouse$Reader", "due", "I", false), ("KeptHouse$Reader", "goal", "I", false), ("KeptHouse$Reader", "waiting", "[I", true), ("KeptHouse$Reader", "waitCount", "I", false), ("KeptHouse$Reader", "depth", "I", false)]
def mzT7 : u_T := fun k => mzTl7.getD k ("", "", "", false)
def mzY7 : Nat → FieldType := fun k => [(.array .int), .int, (.array .int), (.array .int), .int, .int, .int, .int, .int, .int, .int, .int, .int, .int, (.array .int), .int, .int].getD k .int
def mzK7 : List Nat := [2, 0, 2, 2, 0, 0, 0, 0, 0, 0, 0, 0, 0, 0, 2, 0, 0]
def mzH7 : List (Nat × Nat) := [(1, 173), (1, 175), (1, 177), (1, 179), (1, 181), (1, 183), (1, 185), (1, 187), (1, 189), (1, 191), (1, 193), (1, 195), (1, 197), (1, 199), (1, 201), (1, 203), (1, 205)]
def mzTl8 : List (String × String × String × Bool) := [("KeptHouse$Store", "disk", "[[I", true), ("KeptHouse$Store", "keys", "[I", true), ("KeptHouse$Store", "there", "[I", true), ("KeptHouse$Store", "line", "[I", true), ("KeptHouse$Store", "area", "I", false), ("KeptHouse$Store", "generation", "I", false), ("KeptHouse$Store", "used", "I", false), ("KeptHouse$Store", "down", "Z", false), ("KeptHouse$Store", "wholeRows", "I", false), ("KeptHouse$Store", "group", "[I", true), ("KeptHouse$Store", "staged", "[I", true), ("KeptHouse$Store", "groupCount", "I", false)]
def mzT8 : u_T := fun k => mzTl8.getD k ("", "", "", false)
def mzY8 : Nat → FieldType := fun k => [(.array (.array .int)), (.array .int), (.array .int), (.array .int), .int, .int, .int, .boolean, .int, (.array .int), (.array .int), .int].getD k .int
def mzK8 : List Nat := [2, 2, 2, 2, 0, 0, 0, 3, 0, 2, 2, 0]
def mzH8 : List (Nat × Nat) := [(3, 161), (3, 163), (3, 165), (3, 167), (3, 169), (3, 171), (3, 173), (3, 175), (3, 177), (3, 179), (3, 181), (3, 183)]
def mzTl9 : List (String × String × String × Bool) := [("KeptHouse$Supply", "circuits", "[[I", true), ("KeptHouse$Supply", "charge", "I", false), ("KeptHouse$Supply", "fuel", "I", false), ("KeptHouse$Supply", "without", "I", false), ("KeptHouse$Supply", "mains", "Z", false), ("KeptHouse$Supply", "engineGave", "Z", false), ("KeptHouse$Supply", "houseLive", "Z", false), ("KeptHouse$Supply", "tank", "I", false), ("KeptHouse$Supply", "wanted", "Z", false), ("KeptHouse$Supply", "pumpRan", "Z", false), ("KeptHouse$Supply", "dry", "Z", false), ("KeptHouse$Supply", "stored", "I", false), ("KeptHouse$Supply", "cool", "I", false), ("KeptHouse$Supply", "boilerGave", "I", false), ("KeptHouse$Supply", "hot", "[I", true), ("KeptHouse$Supply", "seed", "J", false)]
def mzT9 : u_T := fun k => mzTl9.getD k ("", "", "", false)
def mzY9 : Nat → FieldType := fun k => [(.array (.array .int)), .int, .int, .int, .boolean, .boolean, .boolean, .int, .boolean, .boolean, .boolean, .int, .int, .int, (.array .int), .long].getD k .int
def mzK9 : List Nat := [2, 0, 0, 0, 3, 3, 3, 0, 3, 3, 3, 0, 0, 0, 2, 1]
def mzH9 : List (Nat × Nat) := [(2, 51), (2, 53), (2, 55), (2, 57), (2, 59), (2, 61), (2, 63), (2, 65), (2, 67), (2, 69), (2, 71), (2, 73), (2, 75), (2, 77), (2, 79), (2, 81)]
def mzTl10 : List (String × String × String × Bool) := [("KeptHouse$Watch", "coldMinutes", "[I", true), ("KeptHouse$Watch", "on", "[Z", true), ("KeptHouse$Watch", "notes", "[[I", true), ("KeptHouse$Watch", "noted", "I", false), ("KeptHouse$Watch", "told", "[I", true), ("KeptHouse$Watch", "kinds", "[I", true), ("KeptHouse$Watch", "indices", "[I", true), ("KeptHouse$Watch", "trends", "[[J", true), ("KeptHouse$Watch", "taken", "[I", true)]
def mzT10 : u_T := fun k => mzTl10.getD k ("", "", "", false)
def mzY10 : Nat → FieldType := fun k => [(.array .int), (.array .boolean), (.array (.array .int)), .int, (.array .int), (.array .int), (.array .int), (.array (.array .long)), (.array .int)].getD k .int
def mzK10 : List Nat := [2, 2, 2, 0, 2, 2, 2, 2, 2]
def mzH10 : List (Nat × Nat) := [(2, 175), (2, 177), (2, 179), (2, 181), (2, 183), (2, 185), (2, 187), (2, 189), (2, 191)]
def mzTl11 : List (String × String × String × Bool) := [("KeptHouse", "keeper", "LKeptHouse$Keeper;", true), ("KeptHouse", "plan", "LKeptHouse$Plan;", true), ("KeptHouse", "program", "LKeptHouse$Program;", true), ("KeptHouse", "supply", "LKeptHouse$Supply;", true), ("KeptHouse", "climate", "LKeptHouse$Climate;", true), ("KeptHouse", "watch", "LKeptHouse$Watch;", true), ("KeptHouse", "access", "LKeptHouse$Access;", true), ("KeptHouse", "care", "LKeptHouse$Care;", true), ("KeptHouse", "books", "LKeptHouse$Books;", true), ("KeptHouse", "store", "LKeptHouse$Store;", true), ("KeptHouse", "values", "[I", true)]
def mzT11 : u_T := fun k => mzTl11.getD k ("", "", "", false)
def mzY11 : Nat → FieldType := fun k => [(.object "KeptHouse$Keeper"), (.object "KeptHouse$Plan"), (.object "KeptHouse$Program"), (.object "KeptHouse$Supply"), (.object "KeptHouse$Climate"), (.object "KeptHouse$Watch"), (.object "KeptHouse$Access"), (.object "KeptHouse$Care"), (.object "KeptHouse$Books"), (.object "KeptHouse$Store"), (.array .int)].getD k .int
def mzK11 : List Nat := [2, 2, 2, 2, 2, 2, 2, 2, 2, 2, 2]
def mzH11 : List (Nat × Nat) := [(6, 192), (6, 194), (6, 196), (6, 198), (6, 200), (6, 202), (6, 204), (6, 206), (6, 208), (6, 210), (6, 212)]
def mzTl12 : List (String × String × String × Bool) := [("KeptHouseModel", "code", "I", false), ("KeptHouseModel", "seed", "J", true), ("KeptHouseModel", "time", "J", false), ("KeptHouseModel", "edges", "[I", true), ("KeptHouseModel", "version", "I", false), ("KeptHouseModel", "flatOf", "[I", true), ("KeptHouseModel", "spaceOf", "[I", true), ("KeptHouseModel", "spaces", "I", false), ("KeptHouseModel", "leastCell", "[I", true), ("KeptHouseModel", "sizes", "[I", true), ("KeptHouseModel", "queue", "[I", true), ("KeptHouseModel", "between", "[I", true), ("KeptHouseModel", "heavyOut", "[I", true), ("KeptHouseModel", "glassOut", "[I", true), ("KeptHouseModel", "heart", "[I", true), ("KeptHouseModel", "area", "[I", true), ("KeptHouseModel", "people", "[I", true), ("KeptHouseModel", "weather", "[I", true), ("KeptHouseModel", "sun", "[I", true), ("KeptHouseModel", "rating", "[I", true), ("KeptHouseModel", "rank", "[I", true), ("KeptHouseModel", "cap", "I", false), ("KeptHouseModel", "price", "[I", true), ("KeptHouseModel", "life", "[I", true), ("KeptHouseModel", "text", "[I", true), ("KeptHouseModel", "textSize", "I", false), ("KeptHouseModel", "program", "[I", true), ("KeptHouseModel", "programSize", "I", false), ("KeptHouseModel", "statements", "I", false), ("KeptHouseModel", "word", "[I", true), ("KeptHouseModel", "wordValue", "[I", true), ("KeptHouseModel", "words", "I", false), ("KeptHouseModel", "ends", "[I", true), ("KeptHouseModel", "goals", "[I", true), ("KeptHouseModel", "faultKind", "I", false), ("KeptHouseModel", "faultPlace", "I", false), ("KeptHouseModel", "wrong", "Z", false), ("KeptHouseModel", "target", "[I", true), ("KeptHouseModel", "named", "[J", true), ("KeptHouseModel", "pile", "[J", true), ("KeptHouseModel", "heat", "[J", true), ("KeptHouseModel", "stale", "[J", true), ("KeptHouseModel", "moist", "[J", true), ("KeptHouseModel", "mould", "[J", true), ("KeptHouseModel", "flame", "[J", true), ("KeptHouseModel", "smoke", "[J", true), ("KeptHouseModel", "flameWas", "[J", true), ("KeptHouseModel", "drift", "[J", true), ("KeptHouseModel", "spaceHeat", "[J", true), ("KeptHouseModel", "warmth", "[J", true), ("KeptHouseModel", "need", "[J", true), ("KeptHouseModel", "got", "[J", true), ("KeptHouseModel", "mains", "Z", false), ("KeptHouseModel", "fuel", "I", false), ("KeptHouseModel", "charge", "I", false), ("KeptHouseModel", "without", "I", false), ("KeptHouseModel", "load", "[I", true), ("KeptHouseModel", "shed", "[Z", true), ("KeptHouseModel", "heating", "[I", true), ("KeptHouseModel", "tripped", "[Z", true), ("KeptHouseModel", "live", "[Z", true), ("KeptHouseModel", "tank", "I", false), ("KeptHouseModel", "stored", "I", false), ("KeptHouseModel", "wanted", "Z", false), ("KeptHouseModel", "ran", "Z", false), ("KeptHouseModel", "gave", "Z", false), ("KeptHouseModel", "boiled", "J", false), ("KeptHouseModel", "dry", "Z", false), ("KeptHouseModel", "cool", "J", false), ("KeptHouseModel", "hotTaken", "[I", true), ("KeptHouseModel", "coldRun", "[I", true), ("KeptHouseModel", "was", "[Z", true), ("KeptHouseModel", "noted", "I", false), ("KeptHouseModel", "noteKind", "[I", true), ("KeptHouseModel", "noteTime", "[J", true), ("KeptHouseModel", "pointTold", "[Z", true), ("KeptHouseModel", "pointKind", "[I", true), ("KeptHouseModel", "pointIndex", "[I", true), ("KeptHouseModel", "pointCount", "[I", true), ("KeptHouseModel", "pointValue", "[J", true), ("KeptHouseModel", "ticketThere", "[Z", true), ("KeptHouseModel", "ticketStorey", "[I", true), ("KeptHouseModel", "ticketCell", "[I", true), ("KeptHouseModel", "ticketPart", "[I", true), ("KeptHouseModel", "ticketTime", "[J", true), ("KeptHouseModel", "ticketNumber", "[J", true), ("KeptHouseModel", "ticketWorker", "[I", true), ("KeptHouseModel", "nextNumber", "J", false), ("KeptHouseModel", "tourTicket", "[I", true), ("KeptHouseModel", "tourOver", "[J", true), ("KeptHouseModel", "tourSize", "[I", true), ("KeptHouseModel", "tourNext", "[I", true), ("KeptHouseModel", "tourBack", "[J", true), ("KeptHouseModel", "way", "[I", true), ("KeptHouseModel", "bestWay", "[I", true), ("KeptHouseModel", "chosen", "[I", true), ("KeptHouseModel", "orders", "I", false), ("KeptHouseModel", "orderPart", "[I", true), ("KeptHouseModel", "orderMany", "[I", true), ("KeptHouseModel", "orderDue", "[J", true), ("KeptHouseModel", "wear", "[J", true), ("KeptHouseModel", "stock", "[I", true), ("KeptHouseModel", "failed", "[Z", true), ("KeptHouseModel", "doorThere", "[Z", true), ("KeptHouseModel", "doorStorey", "[I", true), ("KeptHouseModel", "doorEdge", "[I", true), ("KeptHouseModel", "cardThere", "[Z", true), ("KeptHouseModel", "rights", "[I", true), ("KeptHouseModel", "cardFrom", "[I", true), ("KeptHouseModel", "cardTo", "[I", true), ("KeptHouseModel", "cardBlocked", "[Z", true), ("KeptHouseModel", "cardPlace", "[I", true), ("KeptHouseModel", "logged", "I", false), ("KeptHouseModel", "logTime", "[J", true), ("KeptHouseModel", "logCard", "[I", true), ("KeptHouseModel", "logDoor", "[I", true), ("KeptHouseModel", "logAnswer", "[I", true), ("KeptHouseModel", "heatMeter", "[J", true), ("KeptHouseModel", "powerMeter", "[J", true), ("KeptHouseModel", "waterMeter", "[J", true), ("KeptHouseModel", "balance", "[J", true), ("KeptHouseModel", "bill", "[J", true), ("KeptHouseModel", "cash", "J", false), ("KeptHouseModel", "lost", "J", false), ("KeptHouseModel", "gas", "J", false), ("KeptHouseModel", "care", "J", false), ("KeptHouseModel", "shareBy", "[J", true), ("KeptHouseModel", "shareGets", "[J", true), ("KeptHouseModel", "shareRest", "[J", true), ("KeptHouseModel", "disk", "[B", true), ("KeptHouseModel", "keyThere", "[Z", true), ("KeptHouseModel", "key", "[B", true), ("KeptHouseModel", "made", "[B", true), ("KeptHouseModel", "areaInUse", "I", false), ("KeptHouseModel", "generation", "J", false), ("KeptHouseModel", "rowsUsed", "I", false), ("KeptHouseModel", "fuse", "I", false), ("KeptHouseModel", "down", "Z", false), ("KeptHouseModel", "group", "[I", true), ("KeptHouseModel", "groupSize", "I", false), ("KeptHouseModel", "tape", "[B", true), ("KeptHouseModel", "tapeSize", "I", false), ("KeptHouseModel", "reel", "[B", true), ("KeptHouseModel", "reelSize", "I", false), ("KeptHouseModel", "givenThere", "[Z", true), ("KeptHouseModel", "given", "[B", true), ("KeptHouseModel", "source", "[I", true), ("KeptHouseModel", "sourceSize", "I", false), ("KeptHouseModel", "at", "I", false), ("KeptHouseModel", "kind", "I", false), ("KeptHouseModel", "tokenAt", "I", false), ("KeptHouseModel", "tokenEnd", "I", false), ("KeptHouseModel", "sign", "I", false), ("KeptHouseModel", "number", "I", false), ("KeptHouseModel", "troubled", "I", false), ("KeptHouseModel", "waits", "[I", true), ("KeptHouseModel", "waiting", "I", false), ("KeptHouseModel", "depth", "I", false), ("KeptHouseModel", "sums", "[J", true), ("KeptHouseModel", "row", "[B", true)]
def mzT12 : u_T := fun k => mzTl12.getD k ("", "", "", false)
def mzY12 : Nat → FieldType := fun k => [.int, .long, .long, (.array .int), .int, (.array .int), (.array .int), .int, (.array .int), (.array .int), (.array .int), (.array .int), (.array .int), (.array .int), (.array .int), (.array .int), (.array .int), (.array .int), (.array .int), (.array .int), (.array .int), .int, (.array .int), (.array .int), (.array .int), .int, (.array .int), .int, .int, (.array .int), (.array .int), .int, (.array .int), (.array .int), .int, .int, .boolean, (.array .int), (.array .long), (.array .long), (.array .long), (.array .long), (.array .long), (.array .long), (.array .long), (.array .long), (.array .long), (.array .long), (.array .long), (.array .long), (.array .long), (.array .long), .boolean, .int, .int, .int, (.array .int), (.array .boolean), (.array .int), (.array .boolean), (.array .boolean), .int, .int, .boolean, .boolean, .boolean, .long, .boolean, .long, (.array .int), (.array .int), (.array .boolean), .int, (.array .int), (.array .long), (.array .boolean), (.array .int), (.array .int), (.array .int), (.array .long), (.array .boolean), (.array .int), (.array .int), (.array .int), (.array .long), (.array .long), (.array .int), .long, (.array .int), (.array .long), (.array .int), (.array .int), (.array .long), (.array .int), (.array .int), (.array .int), .int, (.array .int), (.array .int), (.array .long), (.array .long), (.array .int), (.array .boolean), (.array .boolean), (.array .int), (.array .int), (.array .boolean), (.array .int), (.array .int), (.array .int), (.array .boolean), (.array .int), .int, (.array .long), (.array .int), (.array .int), (.array .int), (.array .long), (.array .long), (.array .long), (.array .long), (.array .long), .long, .long, .long, .long, (.array .long), (.array .long), (.array .long), (.array .byte), (.array .boolean), (.array .byte), (.array .byte), .int, .long, .int, .int, .boolean, (.array .int), .int, (.array .byte), .int, (.array .byte), .int, (.array .boolean), (.array .byte), (.array .int), .int, .int, .int, .int, .int, .int, .int, .int, (.array .int), .int, .int, (.array .long), (.array .byte)].getD k .int
def mzK12 : List Nat := [0, 1, 1, 2, 0, 2, 2, 0, 2, 2, 2, 2, 2, 2, 2, 2, 2, 2, 2, 2, 2, 0, 2, 2, 2, 0, 2, 0, 0, 2, 2, 0, 2, 2, 0, 0, 3, 2, 2, 2, 2, 2, 2, 2, 2, 2, 2, 2, 2, 2, 2, 2, 3, 0, 0, 0, 2, 2, 2, 2, 2, 0, 0, 3, 3, 3, 1, 3, 1, 2, 2, 2, 0, 2, 2, 2, 2, 2, 2, 2, 2, 2, 2, 2, 2, 2, 2, 1, 2, 2, 2, 2, 2, 2, 2, 2, 0, 2, 2, 2, 2, 2, 2, 2, 2, 2, 2, 2, 2, 2, 2, 2, 0, 2, 2, 2, 2, 2, 2, 2, 2, 2, 1, 1, 1, 1, 2, 2, 2, 2, 2, 2, 2, 0, 1, 0, 0, 3, 2, 0, 2, 0, 2, 0, 2, 2, 2, 0, 0, 0, 0, 0, 0, 0, 0, 2, 0, 0, 2, 2]
def mzH12 : List (Nat × Nat) := [(13, 203), (13, 205), (13, 207), (13, 209), (13, 211), (13, 213), (13, 215), (13, 217), (13, 219), (13, 221), (13, 223), (13, 225), (13, 227), (13, 229), (13, 231), (13, 233), (13, 235), (13, 237), (13, 239), (14, 1), (14, 3), (14, 5), (14, 7), (14, 9), (14, 11), (14, 13), (14, 15), (14, 17), (14, 19), (14, 21), (14, 23), (14, 25), (14, 27), (14, 29), (14, 31), (14, 33), (14, 35), (14, 37), (14, 39), (14, 41), (14, 43), (14, 45), (14, 47), (14, 49), (14, 51), (14, 53), (14, 55), (14, 57), (14, 59), (14, 61), (14, 63), (14, 65), (14, 67), (14, 69), (14, 71), (14, 73), (14, 75), (14, 77), (14, 79), (14, 81), (14, 83), (14, 85), (14, 87), (14, 89), (14, 91), (14, 93), (14, 95), (14, 97), (14, 99), (14, 101), (14, 103), (14, 105), (14, 107), (14, 109), (14, 111), (14, 113), (14, 115), (14, 117), (14, 119), (14, 121), (14, 123), (14, 125), (14, 127), (14, 129), (14, 131), (14, 133), (14, 135), (14, 137), (14, 139), (14, 141), (14, 143), (14, 145), (14, 147), (14, 149), (14, 151), (14, 153), (14, 155), (14, 157), (14, 159), (14, 161), (14, 163), (14, 165), (14, 167), (14, 169), (14, 171), (14, 173), (14, 175), (14, 177), (14, 179), (14, 181), (14, 183), (14, 185), (14, 187), (14, 189), (14, 191), (14, 193), (14, 195), (14, 197), (14, 199), (14, 201), (14, 203), (14, 205), (14, 207), (14, 209), (14, 211), (14, 213), (14, 215), (14, 217), (14, 219), (14, 221), (14, 223), (14, 225), (14, 227), (14, 229), (14, 231), (14, 233), (14, 235), (14, 237), (14, 239), (15, 1), (15, 3), (15, 5), (15, 7), (15, 9), (15, 11), (15, 13), (15, 15), (15, 17), (15, 19), (15, 21), (15, 23), (15, 25), (15, 27), (15, 29), (15, 31), (15, 33), (15, 35), (15, 37), (15, 39), (15, 41)]
abbrev mz_cl0 : List vw_C := [("KeptHouse$Access", mzT0, 11), ("KeptHouse$Books", mzT1, 12), ("KeptHouse$Care", mzT2, 13), ("KeptHouse$Climate", mzT3, 16), ("KeptHouse$Keeper", mzT4, 15), ("KeptHouse$Plan", mzT5, 19), ("KeptHouse$Program", mzT6, 10), ("KeptHouse$Reader", mzT7, 17), ("KeptHouse$Store", mzT8, 12), ("KeptHouse$Supply", mzT9, 16), ("KeptHouse$Watch", mzT10, 9), ("KeptHouse", mzT11, 11), ("KeptHouseModel", mzT12, 160)]
def mz_FK0 (ci : Nat) : List Nat := match ci with
  | 0 => mzK0
  | 1 => mzK1
  | 2 => mzK2
  | 3 => mzK3
  | 4 => mzK4
  | 5 => mzK5
  | 6 => mzK6
  | 7 => mzK7
  | 8 => mzK8
  | 9 => mzK9
  | 10 => mzK10
  | 11 => mzK11
  | 12 => mzK12
  | _ => []
def mz_kt (t : Nat) (ty : FieldType) : Bool := match t, ty with
  | 0, .int => true
  | 1, .long => true
  | 2, .object _ => true
  | 2, .array _ => true
  | 3, .boolean => true
  | _, _ => false
theorem mz_kt_ok {t : Nat} {ty : FieldType} (h : mz_kt t ty = true) : mz_ty t ty := by
  unfold mz_kt at h
  split at h
  · exact Or.inl ⟨rfl, rfl⟩
  · exact Or.inr (Or.inl ⟨rfl, rfl⟩)
  · exact Or.inr (Or.inr (Or.inl ⟨rfl, Or.inl ⟨_, rfl⟩⟩))
  · exact Or.inr (Or.inr (Or.inl ⟨rfl, Or.inr ⟨_, rfl⟩⟩))
  · exact Or.inr (Or.inr (Or.inr ⟨rfl, rfl⟩))
  · cases h
/-- all facts of a class, as a program looks at them -/
def mz_cb (C : String) (T : u_T) (N : Nat) (Y : Nat → FieldType) (K : List Nat) (H : List (Nat × Nat)) : Bool := (List.range N).all (fun k => mz_has (mz_ch (H.getD k (0, 0)).1) (H.getD k (0, 0)).2 (u_lay C T k) && decide (parseFieldDescriptor (T k).2.2.1 = some (Y k)) && mz_kt (K.getD k 9) (Y k)) && K.length == N
def mz_cf (C : String) (T : u_T) (N : Nat) (Y : Nat → FieldType) (K : List Nat) : Prop := (∀ w ∈ u_ws C T N, w ∈ lw_tbl) ∧ (∀ k, k < N → parseFieldDescriptor (T k).2.2.1 = some (Y k)) ∧ (∀ j t, K[j]? = some t → mz_ty t (Y j)) ∧ K.length = N
theorem mz_cb_ok {C : String} {T : u_T} {N : Nat} {Y : Nat → FieldType} {K : List Nat} {H : List (Nat × Nat)} (h : mz_cb C T N Y K H = true) : mz_cf C T N Y K := by
  unfold mz_cb at h
  simp only [Bool.and_eq_true, List.all_eq_true, List.mem_range, beq_iff_eq, decide_eq_true_eq] at h
  obtain ⟨h1, h2⟩ := h
  refine ⟨fun w hw => ?_, fun k hk => (h1 k hk).1.2, fun j t hj => ?_, h2⟩
  · obtain ⟨k, hk, rfl⟩ := List.mem_map.mp hw
    exact mz_hasT (h1 k (List.mem_range.mp hk)).1.1
  · have hl : j < N := by rw [← h2]; exact (List.getElem?_eq_some_iff.mp hj).1
    have h3 := (h1 j hl).2
    rw [List.getD_eq_getElem?_getD, hj] at h3
    exact mz_kt_ok h3
theorem mzC0 : mz_cf "KeptHouse$Access" mzT0 11 mzY0 mzK0 := mz_cb_ok (H := mzH0) (by decide +kernel)
theorem mzN0 : ∀ a, a < 11 → ∀ b, b < 11 → a ≠ b → (mzT0 a).2.1 ≠ (mzT0 b).2.1 := by decide +kernel
theorem mzC1 : mz_cf "KeptHouse$Books" mzT1 12 mzY1 mzK1 := mz_cb_ok (H := mzH1) (by decide +kernel)
theorem mzN1 : ∀ a, a < 12 → ∀ b, b < 12 → a ≠ b → (mzT1 a).2.1 ≠ (mzT1 b).2.1 := by decide +kernel
theorem mzC2 : mz_cf "KeptHouse$Care" mzT2 13 mzY2 mzK2 := mz_cb_ok (H := mzH2) (by decide +kernel)
theorem mzN2 : ∀ a, a < 13 → ∀ b, b < 13 → a ≠ b → (mzT2 a).2.1 ≠ (mzT2 b).2.1 := by decide +kernel
theorem mzC3 : mz_cf "KeptHouse$Climate" mzT3 16 mzY3 mzK3 := mz_cb_ok (H := mzH3) (by decide +kernel)
theorem mzN3 : ∀ a, a < 16 → ∀ b, b < 16 → a ≠ b → (mzT3 a).2.1 ≠ (mzT3 b).2.1 := by decide +kernel
theorem mzC4 : mz_cf "KeptHouse$Keeper" mzT4 15 mzY4 mzK4 := mz_cb_ok (H := mzH4) (by decide +kernel)
theorem mzN4 : ∀ a, a < 15 → ∀ b, b < 15 → a ≠ b → (mzT4 a).2.1 ≠ (mzT4 b).2.1 := by decide +kernel
theorem mzC5 : mz_cf "KeptHouse$Plan" mzT5 19 mzY5 mzK5 := mz_cb_ok (H := mzH5) (by decide +kernel)
theorem mzN5 : ∀ a, a < 19 → ∀ b, b < 19 → a ≠ b → (mzT5 a).2.1 ≠ (mzT5 b).2.1 := by decide +kernel
theorem mzC6 : mz_cf "KeptHouse$Program" mzT6 10 mzY6 mzK6 := mz_cb_ok (H := mzH6) (by decide +kernel)
theorem mzN6 : ∀ a, a < 10 → ∀ b, b < 10 → a ≠ b → (mzT6 a).2.1 ≠ (mzT6 b).2.1 := by decide +kernel
theorem mzC7 : mz_cf "KeptHouse$Reader" mzT7 17 mzY7 mzK7 := mz_cb_ok (H := mzH7) (by decide +kernel)
theorem mzN7 : ∀ a, a < 17 → ∀ b, b < 17 → a ≠ b → (mzT7 a).2.1 ≠ (mzT7 b).2.1 := by decide +kernel
theorem mzC8 : mz_cf "KeptHouse$Store" mzT8 12 mzY8 mzK8 := mz_cb_ok (H := mzH8) (by decide +kernel)
theorem mzN8 : ∀ a, a < 12 → ∀ b, b < 12 → a ≠ b → (mzT8 a).2.1 ≠ (mzT8 b).2.1 := by decide +kernel
theorem mzC9 : mz_cf "KeptHouse$Supply" mzT9 16 mzY9 mzK9 := mz_cb_ok (H := mzH9) (by decide +kernel)
theorem mzN9 : ∀ a, a < 16 → ∀ b, b < 16 → a ≠ b → (mzT9 a).2.1 ≠ (mzT9 b).2.1 := by decide +kernel
theorem mzC10 : mz_cf "KeptHouse$Watch" mzT10 9 mzY10 mzK10 := mz_cb_ok (H := mzH10) (by decide +kernel)
theorem mzN10 : ∀ a, a < 9 → ∀ b, b < 9 → a ≠ b → (mzT10 a).2.1 ≠ (mzT10 b).2.1 := by decide +kernel
theorem mzC11 : mz_cf "KeptHouse" mzT11 11 mzY11 mzK11 := mz_cb_ok (H := mzH11) (by decide +kernel)
theorem mzN11 : ∀ a, a < 11 → ∀ b, b < 11 → a ≠ b → (mzT11 a).2.1 ≠ (mzT11 b).2.1 := by decide +kernel
theorem mzC12 : mz_cf "KeptHouseModel" mzT12 160 mzY12 mzK12 := mz_cb_ok (H := mzH12) (by decide +kernel)
theorem mzN12 : ∀ a, a < 160 → ∀ b, b < 160 → a ≠ b → (mzT12 a).2.1 ≠ (mzT12 b).2.1 := by decide +kernel
def mz_Tc (ci : Nat) : u_T := match ci with
  | 0 => mzT0
  | 1 => mzT1
  | 2 => mzT2
  | 3 => mzT3
  | 4 => mzT4
  | 5 => mzT5
  | 6 => mzT6
  | 7 => mzT7
  | 8 => mzT8
  | 9 => mzT9
  | 10 => mzT10
  | 11 => mzT11
  | 12 => mzT12
  | _ => fun _ => ("", "", "", false)
def mz_Nc (ci : Nat) : Nat := match ci with
  | 0 => 11
  | 1 => 12
  | 2 => 13
  | 3 => 16
  | 4 => 15
  | 5 => 19
  | 6 => 10
  | 7 => 17
  | 8 => 12
  | 9 => 16
  | 10 => 9
  | 11 => 11
  | 12 => 160
  | _ => 0
def mz_Yc (ci : Nat) : Nat → FieldType := match ci with
  | 0 => mzY0
  | 1 => mzY1
  | 2 => mzY2
  | 3 => mzY3
  | 4 => mzY4
  | 5 => mzY5
  | 6 => mzY6
  | 7 => mzY7
  | 8 => mzY8
  | 9 => mzY9
  | 10 => mzY10
  | 11 => mzY11
  | 12 => mzY12
  | _ => fun _ => .int
theorem mzCF : ∀ ci, ci < 13 → mz_cl0[ci]? = some (mz_cn0 ci, mz_Tc ci, mz_Nc ci) ∧ mz_cf (mz_cn0 ci) (mz_Tc ci) (mz_Nc ci) (mz_Yc ci) (mz_FK0 ci) ∧ ∀ a, a < mz_Nc ci → ∀ b, b < mz_Nc ci → a ≠ b → (mz_Tc ci a).2.1 ≠ (mz_Tc ci b).2.1 := by
  intro ci h
  match ci, h with
  | 0, _ => exact ⟨rfl, mzC0, mzN0⟩
  | 1, _ => exact ⟨rfl, mzC1, mzN1⟩
  | 2, _ => exact ⟨rfl, mzC2, mzN2⟩
  | 3, _ => exact ⟨rfl, mzC3, mzN3⟩
  | 4, _ => exact ⟨rfl, mzC4, mzN4⟩
  | 5, _ => exact ⟨rfl, mzC5, mzN5⟩
  | 6, _ => exact ⟨rfl, mzC6, mzN6⟩
  | 7, _ => exact ⟨rfl, mzC7, mzN7⟩
  | 8, _ => exact ⟨rfl, mzC8, mzN8⟩
  | 9, _ => exact ⟨rfl, mzC9, mzN9⟩
  | 10, _ => exact ⟨rfl, mzC10, mzN10⟩
  | 11, _ => exact ⟨rfl, mzC11, mzN11⟩
  | 12, _ => exact ⟨rfl, mzC12, mzN12⟩
