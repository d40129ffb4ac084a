/-- a private method of a class that the tables say can be made, by its rows of tables_1 -/
def lw_okq (q : MethodName × Nat) : Prop := (q.1.cls ≠ "java/lang/invoke/MethodHandle" ∧ q.1.cls ≠ "java/lang/invoke/VarHandle") ∧ Cond.instantiable q.1.cls q.2 ∈ tables_1 ∧ Cond.privateMethod q.1 ∈ tables_1 ∧ Cond.instanceMethod q.1 ∈ tables_1
def mz_has (c : List Jvm.Cond) (i : Nat) (w : Jvm.Cond) : Bool := match c[i]? with
  | some x => decide (x = w)
  | none => false
theorem mz_has_mem {c : List Jvm.Cond} {i : Nat} {w : Jvm.Cond} (h : mz_has c i w = true) : w ∈ c := by
  unfold mz_has at h
  split at h
  · rename_i x hx
    rw [← of_decide_eq_true h]
    exact List.mem_of_getElem? hx
  · cases h
/-- the tables' words in their pieces -/
def mz_ct (c : Nat) : List Jvm.Cond := match c with
  | 1 => tables_1_1
  | 2 => tables_1_2
  | 3 => tables_1_3
  | 4 => tables_1_4
  | 5 => tables_1_5
  | 6 => tables_1_6
  | 7 => tables_1_7
  | 8 => tables_1_8
  | 9 => tables_1_9
  | 10 => tables_1_10
  | 11 => tables_1_11
  | 12 => tables_1_12
  | 13 => tables_1_13
  | 14 => tables_1_14
  | 15 => tables_1_15
  | 16 => tables_1_16
  | 17 => tables_1_17
  | 18 => tables_1_18
  | _ => []
theorem mz_ct_in {c : Nat} {w : Jvm.Cond} (h : w ∈ mz_ct c) : w ∈ tables_1 := by
  unfold tables_1
  simp only [List.mem_append]
  unfold mz_ct at h
  split at h
  · exact Or.inl h
  · exact Or.inr (Or.inl h)
  · exact Or.inr (Or.inr (Or.inl h))
  · exact Or.inr (Or.inr (Or.inr (Or.inl h)))
  · exact Or.inr (Or.inr (Or.inr (Or.inr (Or.inl h))))
  · exact Or.inr (Or.inr (Or.inr (Or.inr (Or.inr (Or.inl h)))))
  · exact Or.inr (Or.inr (Or.inr (Or.inr (Or.inr (Or.inr (Or.inl h))))))
  · exact Or.inr (Or.inr (Or.inr (Or.inr (Or.inr (Or.inr (Or.inr (Or.inl h)))))))
  · exact Or.inr (Or.inr (Or.inr (Or.inr (Or.inr (Or.inr (Or.inr (Or.inr (Or.inl h))))))))
  · exact Or.inr (Or.inr (Or.inr (Or.inr (Or.inr (Or.inr (Or.inr (Or.inr (Or.inr (Or.inl h)))))))))
  · exact Or.inr (Or.inr (Or.inr (Or.inr (Or.inr (Or.inr (Or.inr (Or.inr (Or.inr (Or.inr (Or.inl h))))))))))
  · exact Or.inr (Or.inr (Or.inr (Or.inr (Or.inr (Or.inr (Or.inr (Or.inr (Or.inr (Or.inr (Or.inr (Or.inl h)))))))))))
  · exact Or.inr (Or.inr (Or.inr (Or.inr (Or.inr (Or.inr (Or.inr (Or.inr (Or.inr (Or.inr (Or.inr (Or.inr (Or.inl h))))))))))))
  · exact Or.inr (Or.inr (Or.inr (Or.inr (Or.inr (Or.inr (Or.inr (Or.inr (Or.inr (Or.inr (Or.inr (Or.inr (Or.inr (Or.inl h)))))))))))))
  · exact Or.inr (Or.inr (Or.inr (Or.inr (Or.inr (Or.inr (Or.inr (Or.inr (Or.inr (Or.inr (Or.inr (Or.inr (Or.inr (Or.inr (Or.inl h))))))))))))))
  · exact Or.inr (Or.inr (Or.inr (Or.inr (Or.inr (Or.inr (Or.inr (Or.inr (Or.inr (Or.inr (Or.inr (Or.inr (Or.inr (Or.inr (Or.inr (Or.inl h)))))))))))))))
  · exact Or.inr (Or.inr (Or.inr (Or.inr (Or.inr (Or.inr (Or.inr (Or.inr (Or.inr (Or.inr (Or.inr (Or.inr (Or.inr (Or.inr (Or.inr (Or.inr (Or.inl h))))))))))))))))
  · exact Or.inr (Or.inr (Or.inr (Or.inr (Or.inr (Or.inr (Or.inr (Or.inr (Or.inr (Or.inr (Or.inr (Or.inr (Or.inr (Or.inr (Or.inr (Or.inr (Or.inr (h)))))))))))))))))
  · cases h
theorem mz_hasC {c i : Nat} {w : Jvm.Cond} (h : mz_has (mz_ct c) i w = true) : w ∈ tables_1 := mz_ct_in (mz_has_mem h)
def lw_privs : List (MethodName × Nat) := [(⟨"KeptHouse$Store", "compose", "(IIZII)V"⟩, 12),
  (⟨"KeptHouse$Store", "writeLine", "(II)Z"⟩, 12),
  (⟨"KeptHouse$Reader", "advance", "()Z"⟩, 17),
  (⟨"KeptHouse$Reader", "scanNumber", "()Z"⟩, 17),
  (⟨"KeptHouse$Reader", "fail", "(I)Z"⟩, 17),
  (⟨"KeptHouse$Reader", "scanWord", "()V"⟩, 17),
  (⟨"KeptHouse$Reader", "readTarget", "()Z"⟩, 17),
  (⟨"KeptHouse$Reader", "readEquals", "()Z"⟩, 17),
  (⟨"KeptHouse$Reader", "readOperand", "()Z"⟩, 17),
  (⟨"KeptHouse$Reader", "addStep", "(II)V"⟩, 17),
  (⟨"KeptHouse$Reader", "endFactor", "()V"⟩, 17),
  (⟨"KeptHouse$Reader", "latest", "()I"⟩, 17),
  (⟨"KeptHouse$Reader", "open", "(I)Z"⟩, 17),
  (⟨"KeptHouse$Reader", "await", "(I)V"⟩, 17),
  (⟨"KeptHouse$Reader", "readOperator", "()Z"⟩, 17),
  (⟨"KeptHouse$Reader", "reckonFrom", "(I)V"⟩, 17),
  (⟨"KeptHouse$Reader", "endExpression", "()Z"⟩, 17),
  (⟨"KeptHouse$Program", "setTargets", "()V"⟩, 10),
  (⟨"java/lang/Throwable", "fillInStackTrace", "(I)Ljava/lang/Throwable;"⟩, 6),
  (⟨"KeptHouse$Books", "clearMonth", "()V"⟩, 12),
  (⟨"KeptHouse$Keeper", "decode", "(II[II)V"⟩, 15),
  (⟨"KeptHouse$Care", "setTicket", "(IIII)V"⟩, 13),
  (⟨"KeptHouse$Program", "exchange", "()V"⟩, 10),
  (⟨"KeptHouse$Plan", "divide", "([I[I)I"⟩, 19),
  (⟨"KeptHouse$Plan", "flood", "([I[III)V"⟩, 19),
  (⟨"KeptHouse$Plan", "listCells", "()V"⟩, 19),
  (⟨"KeptHouse$Plan", "weighInner", "(I)V"⟩, 19),
  (⟨"KeptHouse$Plan", "weighBorder", "(II)V"⟩, 19),
  (⟨"KeptHouse$Plan", "weighCeilings", "()V"⟩, 19),
  (⟨"KeptHouse$Plan", "listPairs", "()V"⟩, 19),
  (⟨"KeptHouse$Plan", "findHearts", "()V"⟩, 19),
  (⟨"KeptHouse$Store", "snapshotRows", "(I)I"⟩, 12),
  (⟨"KeptHouse$Store", "isWhole", "(II)Z"⟩, 12),
  (⟨"KeptHouse$Store", "isLast", "(II)Z"⟩, 12),
  (⟨"KeptHouse$Store", "ageOf", "(II)I"⟩, 12),
  (⟨"KeptHouse$Store", "isKeyRow", "(III)Z"⟩, 12),
  (⟨"KeptHouse$Store", "lastCounting", "(II)I"⟩, 12),
  (⟨"KeptHouse", "mustBeUp", "()V"⟩, 11),
  (⟨"KeptHouse$Plan", "isConflict", "(II)Z"⟩, 19),
  (⟨"KeptHouse$Plan", "isMine", "(II)Z"⟩, 19),
  (⟨"KeptHouse$Keeper", "encode", "(II[II)V"⟩, 15),
  (⟨"KeptHouse", "keep", "(III)I"⟩, 11),
  (⟨"KeptHouse", "passMinute", "()Z"⟩, 11),
  (⟨"KeptHouse", "careForHouse", "()Z"⟩, 11),
  (⟨"KeptHouse", "finishVisit", "(II)Z"⟩, 11),
  (⟨"KeptHouse", "followProgram", "(I)V"⟩, 11),
  (⟨"KeptHouse$Program", "doStep", "(III)I"⟩, 10),
  (⟨"KeptHouse$Program", "tell", "(II)V"⟩, 10),
  (⟨"KeptHouse$Program", "pick", "(I)I"⟩, 10),
  (⟨"KeptHouse", "supplyPower", "(I)V"⟩, 11),
  (⟨"KeptHouse$Supply", "shedOne", "()V"⟩, 16),
  (⟨"KeptHouse", "supplyWater", "(I)V"⟩, 11),
  (⟨"KeptHouse$Supply", "lot", "(II)I"⟩, 16),
  (⟨"KeptHouse", "warm", "(I)V"⟩, 11),
  (⟨"KeptHouse$Climate", "gather", "(LKeptHouse$Plan;[J)V"⟩, 16),
  (⟨"KeptHouse$Climate", "measureWarmths", "(LKeptHouse$Plan;)V"⟩, 16),
  (⟨"KeptHouse$Climate", "spread", "(LKeptHouse$Plan;[J)V"⟩, 16),
  (⟨"KeptHouse$Climate", "ventilate", "(LKeptHouse$Plan;I)V"⟩, 16),
  (⟨"KeptHouse$Climate", "growMould", "(LKeptHouse$Plan;)V"⟩, 16),
  (⟨"KeptHouse$Climate", "growFlames", "()V"⟩, 16),
  (⟨"KeptHouse$Climate", "lightNeighbours", "(LKeptHouse$Plan;)V"⟩, 16),
  (⟨"KeptHouse$Climate", "driftSmoke", "(LKeptHouse$Plan;)V"⟩, 16),
  (⟨"KeptHouse$Climate", "ventSmoke", "(I)V"⟩, 16),
  (⟨"KeptHouse$Climate", "sprinkle", "(LKeptHouse$Plan;LKeptHouse$Supply;)V"⟩, 16),
  (⟨"KeptHouse$Climate", "isAnyLeft", "()Z"⟩, 16),
  (⟨"KeptHouse", "wearParts", "()Z"⟩, 11),
  (⟨"KeptHouse", "failPart", "(I)Z"⟩, 11),
  (⟨"KeptHouse", "soundAlarms", "()V"⟩, 11),
  (⟨"KeptHouse", "endMinute", "()Z"⟩, 11),
  (⟨"KeptHouse", "notePoints", "()V"⟩, 11),
  (⟨"KeptHouse", "measure", "(II)J"⟩, 11),
  (⟨"KeptHouse$Books", "sumMeters", "(I)J"⟩, 12),
  (⟨"KeptHouse$Books", "chargeByMeters", "(JI[I)V"⟩, 12),
  (⟨"KeptHouse$Books", "addShares", "()V"⟩, 12),
  (⟨"KeptHouse$Books", "chargeByAreas", "(J[I)V"⟩, 12),
  (⟨"KeptHouse", "keepDay", "()Z"⟩, 11),
  (⟨"KeptHouse$Access", "near", "(I)I"⟩, 11),
  (⟨"KeptHouse$Access", "far", "(I)I"⟩, 11),
  (⟨"KeptHouse$Access", "isItsHour", "(II)Z"⟩, 11),
  (⟨"KeptHouse$Care", "placeAbove", "(I)I"⟩, 13),
  (⟨"KeptHouse$Care", "choose", "(I)I"⟩, 13),
  (⟨"KeptHouse$Care", "isStocked", "(I)Z"⟩, 13),
  (⟨"KeptHouse$Care", "measureWays", "(I)V"⟩, 13),
  (⟨"KeptHouse$Care", "spot", "(I)I"⟩, 13),
  (⟨"KeptHouse$Care", "bestNext", "(III)I"⟩, 13),
  (⟨"KeptHouse$Care", "wayOver", "(III)I"⟩, 13),
  (⟨"KeptHouse$Care", "layTour", "(III)V"⟩, 13),
  (⟨"KeptHouse$Keeper", "layOut", "(I)Z"⟩, 15),
  (⟨"KeptHouse$Keeper", "isWithinBounds", "()Z"⟩, 15),
  (⟨"KeptHouse$Keeper", "hasFewSpaces", "()Z"⟩, 15),
  (⟨"KeptHouse$Keeper", "areNumbersApart", "()Z"⟩, 15),
  (⟨"KeptHouseModel", "writeHead", "(IJJ)Z"⟩, 160),
  (⟨"KeptHouseModel", "set", "(IIJ)V"⟩, 160),
  (⟨"KeptHouseModel", "writeRow", "(IIIIZJ)Z"⟩, 160),
  (⟨"KeptHouseModel", "beginAnew", "()V"⟩, 160),
  (⟨"KeptHouseModel", "firstThings", "()V"⟩, 160),
  (⟨"KeptHouseModel", "firstPlan", "(I)V"⟩, 160),
  (⟨"KeptHouseModel", "firstNumbers", "()V"⟩, 160),
  (⟨"KeptHouseModel", "read", "(III)V"⟩, 160),
  (⟨"KeptHouseModel", "at", "(II)I"⟩, 160),
  (⟨"KeptHouseModel", "readMore", "(III)V"⟩, 160),
  (⟨"KeptHouseModel", "small", "(II)I"⟩, 160),
  (⟨"KeptHouseModel", "copyPlan", "(II)V"⟩, 160),
  (⟨"KeptHouseModel", "lay", "()V"⟩, 160),
  (⟨"KeptHouseModel", "findSpaces", "(I)V"⟩, 160),
  (⟨"KeptHouseModel", "flood", "(III)I"⟩, 160),
  (⟨"KeptHouseModel", "near", "(III)V"⟩, 160),
  (⟨"KeptHouseModel", "layFlats", "()V"⟩, 160),
  (⟨"KeptHouseModel", "flatOfSpace", "(I)I"⟩, 160),
  (⟨"KeptHouseModel", "firstTargets", "()V"⟩, 160),
  (⟨"KeptHouseModel", "readProgram", "()V"⟩, 160),
  (⟨"KeptHouseModel", "parse", "()I"⟩, 160),
  (⟨"KeptHouseModel", "token", "()V"⟩, 160),
  (⟨"KeptHouseModel", "blame", "(I)V"⟩, 160),
  (⟨"KeptHouseModel", "statement", "()V"⟩, 160),
  (⟨"KeptHouseModel", "nameOf", "()I"⟩, 160),
  (⟨"KeptHouseModel", "expression", "()V"⟩, 160),
  (⟨"KeptHouseModel", "factor", "()Z"⟩, 160),
  (⟨"KeptHouseModel", "put", "(II)V"⟩, 160),
  (⟨"KeptHouseModel", "turnedBack", "()V"⟩, 160),
  (⟨"KeptHouseModel", "top", "()I"⟩, 160),
  (⟨"KeptHouseModel", "drop", "()V"⟩, 160),
  (⟨"KeptHouseModel", "hold", "(I)V"⟩, 160),
  (⟨"KeptHouseModel", "behind", "()Z"⟩, 160),
  (⟨"KeptHouseModel", "settleTo", "(I)V"⟩, 160),
  (⟨"KeptHouseModel", "settleAll", "()V"⟩, 160),
  (⟨"KeptHouseModel", "fails", "(ZZ)Z"⟩, 160),
  (⟨"KeptHouseModel", "conflicts", "(I)I"⟩, 160),
  (⟨"KeptHouseModel", "isConflict", "(II)Z"⟩, 160),
  (⟨"KeptHouseModel", "isMine", "(II)Z"⟩, 160),
  (⟨"KeptHouseModel", "beginGroup", "()V"⟩, 160),
  (⟨"KeptHouseModel", "addKey", "(II)V"⟩, 160),
  (⟨"KeptHouseModel", "writeGroup", "()Z"⟩, 160),
  (⟨"KeptHouseModel", "snapshot", "([Z[B)Z"⟩, 160),
  (⟨"KeptHouseModel", "make", "(I)V"⟩, 160),
  (⟨"KeptHouseModel", "makeMore", "(II)V"⟩, 160),
  (⟨"KeptHouseModel", "conflictAt", "(II)I"⟩, 160),
  (⟨"KeptHouseModel", "closed", "()Z"⟩, 160),
  (⟨"KeptHouseModel", "warmthOf", "(I)J"⟩, 160),
  (⟨"KeptHouseModel", "sumOf", "([JI)J"⟩, 160),
  (⟨"KeptHouseModel", "writeOne", "(II)Z"⟩, 160),
  (⟨"KeptHouseModel", "minute", "()Z"⟩, 160),
  (⟨"KeptHouseModel", "hourNow", "()I"⟩, 160),
  (⟨"KeptHouseModel", "cares", "()Z"⟩, 160),
  (⟨"KeptHouseModel", "works", "(I)Z"⟩, 160),
  (⟨"KeptHouseModel", "doProgram", "(I)V"⟩, 160),
  (⟨"KeptHouseModel", "nameAll", "(I)V"⟩, 160),
  (⟨"KeptHouseModel", "sumAll", "([J)V"⟩, 160),
  (⟨"KeptHouseModel", "done", "(III)V"⟩, 160),
  (⟨"KeptHouseModel", "tell", "(IJ)V"⟩, 160),
  (⟨"KeptHouseModel", "power", "(I)V"⟩, 160),
  (⟨"KeptHouseModel", "peopleIn", "(II)I"⟩, 160),
  (⟨"KeptHouseModel", "shedAll", "(I)V"⟩, 160),
  (⟨"KeptHouseModel", "loads", "()I"⟩, 160),
  (⟨"KeptHouseModel", "water", "(I)V"⟩, 160),
  (⟨"KeptHouseModel", "draw", "(I)I"⟩, 160),
  (⟨"KeptHouseModel", "warm", "(I)V"⟩, 160),
  (⟨"KeptHouseModel", "gather", "([J[J)V"⟩, 160),
  (⟨"KeptHouseModel", "boil", "()V"⟩, 160),
  (⟨"KeptHouseModel", "share", "(J[JI[J)Z"⟩, 160),
  (⟨"KeptHouseModel", "spread", "([J[J)V"⟩, 160),
  (⟨"KeptHouseModel", "air", "(I)V"⟩, 160),
  (⟨"KeptHouseModel", "airOf", "([JIII)V"⟩, 160),
  (⟨"KeptHouseModel", "fire", "()V"⟩, 160),
  (⟨"KeptHouseModel", "sprinkle", "(I)V"⟩, 160),
  (⟨"KeptHouseModel", "wears", "()Z"⟩, 160),
  (⟨"KeptHouseModel", "giveTicket", "(III)I"⟩, 160),
  (⟨"KeptHouseModel", "noteAlarms", "()V"⟩, 160),
  (⟨"KeptHouseModel", "isOn", "(I)Z"⟩, 160),
  (⟨"KeptHouseModel", "notePoints", "()V"⟩, 160),
  (⟨"KeptHouseModel", "pointNow", "(I)J"⟩, 160),
  (⟨"KeptHouseModel", "bills", "()V"⟩, 160),
  (⟨"KeptHouseModel", "shareOut", "(J[J)V"⟩, 160),
  (⟨"KeptHouseModel", "addToBills", "()V"⟩, 160),
  (⟨"KeptHouseModel", "shareAreas", "(J)V"⟩, 160),
  (⟨"KeptHouseModel", "isDetected", "(I)Z"⟩, 160),
  (⟨"KeptHouseModel", "tickets0", "()I"⟩, 160),
  (⟨"KeptHouseModel", "ticketBehind", "(J)I"⟩, 160),
  (⟨"KeptHouseModel", "takenFor", "(I)I"⟩, 160),
  (⟨"KeptHouseModel", "wayThrough", "(I)I"⟩, 160),
  (⟨"KeptHouseModel", "wayTo", "(II)I"⟩, 160),
  (⟨"KeptHouseModel", "nextWay", "(I)Z"⟩, 160),
  (⟨"KeptHouseModel", "doors", "()I"⟩, 160),
  (⟨"KeptHouseModel", "isCard", "(I)Z"⟩, 160),
  (⟨"KeptHouseModel", "isAt", "(II)Z"⟩, 160),
  (⟨"KeptHouseModel", "isInTime", "(I)Z"⟩, 160),
  (⟨"KeptHouseModel", "pass", "(II)V"⟩, 160),
  (⟨"KeptHouseModel", "isGoodArea", "(I)Z"⟩, 160),
  (⟨"KeptHouseModel", "generationOf", "(I)J"⟩, 160),
  (⟨"KeptHouseModel", "isRow", "(IIJ)Z"⟩, 160),
  (⟨"KeptHouseModel", "isLast", "(II)Z"⟩, 160),
  (⟨"KeptHouseModel", "keyAt", "(II)I"⟩, 160),
  (⟨"KeptHouseModel", "takeRow", "(II)V"⟩, 160),
  (⟨"KeptHouseModel", "imageFault", "()I"⟩, 160),
  (⟨"KeptHouseModel", "takeKeys", "()Z"⟩, 160),
  (⟨"KeptHouseModel", "isGoodKey", "(I)Z"⟩, 160),
  (⟨"KeptHouseModel", "isPlan", "(I)Z"⟩, 160),
  (⟨"KeptHouseModel", "byteIn", "(II)I"⟩, 160),
  (⟨"KeptHouseModel", "areFlats", "(I)Z"⟩, 160),
  (⟨"KeptHouseModel", "isRest", "(II)Z"⟩, 160),
  (⟨"KeptHouseModel", "isAll", "(IIIII)Z"⟩, 160),
  (⟨"KeptHouseModel", "isIn", "(IIIJJ)Z"⟩, 160),
  (⟨"KeptHouseModel", "isMoney", "(II)Z"⟩, 160),
  (⟨"KeptHouseModel", "isCount", "(II)Z"⟩, 160),
  (⟨"KeptHouseModel", "isTicket", "(II)Z"⟩, 160),
  (⟨"KeptHouseModel", "isRoomy", "()Z"⟩, 160),
  (⟨"KeptHouseModel", "isProgram", "()Z"⟩, 160)]
def mz_ph : List ((Nat × Nat) × (Nat × Nat) × (Nat × Nat)) := [((3, 108), (3, 115), (3, 116)), ((3, 108), (3, 125), (3, 126)), ((1, 143), (4, 36), (4, 37)), ((1, 143), (4, 43), (4, 44)), ((1, 143), (4, 47), (4, 48)), ((1, 143), (4, 54), (4, 55)), ((1, 143), (4, 151), (4, 152)), ((1, 143), (4, 155), (4, 156)), ((1, 143), (4, 159), (4, 160)), ((1, 143), (4, 163), (4, 164)), ((1, 143), (4, 167), (4, 168)), ((1, 143), (4, 171), (4, 172)), ((1, 143), (4, 175), (4, 176)), ((1, 143), (4, 179), (4, 180)), ((1, 143), (4, 183), (4, 184)), ((1, 143), (4, 190), (4, 191)), ((1, 143), (4, 194), (4, 195)), ((1, 137), (4, 198), (4, 199)), ((5, 5), (5, 3), (5, 4)), ((3, 51), (6, 31), (6, 32)), ((1, 40), (6, 44), (6, 45)), ((3, 0), (6, 90), (6, 91)), ((1, 137), (6, 123), (6, 124)), ((1, 46), (6, 131), (6, 132)), ((1, 46), (6, 135), (6, 136)), ((1, 46), (6, 146), (6, 147)), ((1, 46), (6, 150), (6, 151)), ((1, 46), (6, 161), (6, 162)), ((1, 46), (6, 165), (6, 166)), ((1, 46), (6, 169), (6, 170)), ((1, 46), (6, 173), (6, 174)), ((3, 108), (6, 224), (6, 225)), ((3, 108), (6, 229), (6, 230)), ((3, 108), (6, 233), (6, 234)), ((3, 108), (6, 237), (6, 238)), ((3, 108), (7, 1), (7, 2)), ((3, 108), (7, 9), (7, 10)), ((1, 32), (7, 29), (7, 30)), ((1, 46), (7, 81), (7, 82)), ((1, 46), (7, 85), (7, 86)), ((1, 40), (7, 120), (7, 121)), ((1, 32), (8, 69), (8, 70)), ((1, 32), (8, 170), (8, 171)), ((1, 32), (8, 178), (8, 179)), ((1, 32), (8, 196), (8, 197)), ((1, 32), (8, 208), (8, 209)), ((1, 137), (8, 234), (8, 235)), ((1, 137), (8, 238), (8, 239)), ((1, 137), (9, 4), (9, 5)), ((1, 32), (9, 22), (9, 23)), ((2, 9), (9, 52), (9, 53)), ((1, 32), (9, 65), (9, 66)), ((2, 9), (9, 74), (9, 75)), ((1, 32), (9, 87), (9, 88)), ((2, 85), (9, 95), (9, 96)), ((2, 85), (9, 99), (9, 100)), ((2, 85), (9, 135), (9, 136)), ((2, 85), (9, 143), (9, 144)), ((2, 85), (9, 148), (9, 149)), ((2, 85), (9, 159), (9, 160)), ((2, 85), (9, 163), (9, 164)), ((2, 85), (9, 173), (9, 174)), ((2, 85), (9, 182), (9, 183)), ((2, 85), (9, 187), (9, 188)), ((2, 85), (9, 191), (9, 192)), ((1, 32), (9, 195), (9, 196)), ((1, 32), (9, 208), (9, 209)), ((1, 32), (9, 220), (9, 221)), ((1, 32), (10, 9), (10, 10)), ((1, 32), (10, 13), (10, 14)), ((1, 32), (10, 17), (10, 18)), ((3, 51), (10, 33), (10, 34)), ((3, 51), (10, 39), (10, 40)), ((3, 51), (10, 44), (10, 45)), ((3, 51), (10, 48), (10, 49)), ((1, 32), (10, 52), (10, 53)), ((2, 196), (10, 172), (10, 173)), ((2, 196), (10, 180), (10, 181)), ((2, 196), (10, 185), (10, 186)), ((3, 0), (11, 29), (11, 30)), ((3, 0), (11, 44), (11, 45)), ((3, 0), (11, 48), (11, 49)), ((3, 0), (11, 52), (11, 53)), ((3, 0), (11, 56), (11, 57)), ((3, 0), (11, 60), (11, 61)), ((3, 0), (11, 64), (11, 65)), ((3, 0), (11, 74), (11, 75)), ((1, 40), (11, 224), (11, 225)), ((1, 40), (11, 229), (11, 230)), ((1, 40), (12, 69), (12, 70)), ((1, 40), (12, 75), (12, 76)), ((12, 89), (12, 95), (12, 96)), ((12, 89), (12, 99), (12, 100)), ((12, 89), (12, 103), (12, 104)), ((12, 89), (12, 114), (12, 115)), ((12, 89), (12, 118), (12, 119)), ((12, 89), (12, 122), (12, 123)), ((12, 89), (12, 130), (12, 131)), ((12, 89), (12, 141), (12, 142)), ((12, 89), (12, 145), (12, 146)), ((12, 89), (12, 153), (12, 154)), ((12, 89), (12, 157), (12, 158)), ((12, 89), (12, 161), (12, 162)), ((12, 89), (12, 165), (12, 166)), ((12, 89), (12, 169), (12, 170)), ((12, 89), (12, 173), (12, 174)), ((12, 89), (12, 189), (12, 190)), ((12, 89), (12, 193), (12, 194)), ((12, 89), (12, 197), (12, 198)), ((12, 89), (12, 201), (12, 202)), ((12, 89), (12, 205), (12, 206)), ((12, 89), (12, 209), (12, 210)), ((12, 89), (12, 213), (12, 214)), ((12, 89), (12, 223), (12, 224)), ((12, 89), (12, 230), (12, 231)), ((12, 89), (12, 234), (12, 235)), ((12, 89), (12, 238), (12, 239)), ((12, 89), (13, 2), (13, 3)), ((12, 89), (13, 6), (13, 7)), ((12, 89), (13, 10), (13, 11)), ((12, 89), (13, 14), (13, 15)), ((12, 89), (13, 18), (13, 19)), ((12, 89), (13, 25), (13, 26)), ((12, 89), (13, 29), (13, 30)), ((12, 89), (13, 36), (13, 37)), ((12, 89), (13, 40), (13, 41)), ((12, 89), (15, 56), (15, 57)), ((12, 89), (15, 79), (15, 80)), ((12, 89), (15, 83), (15, 84)), ((12, 89), (15, 87), (15, 88)), ((12, 89), (15, 91), (15, 92)), ((12, 89), (15, 95), (15, 96)), ((12, 89), (15, 102), (15, 103)), ((12, 89), (15, 106), (15, 107)), ((12, 89), (15, 110), (15, 111)), ((12, 89), (15, 114), (15, 115)), ((12, 89), (15, 122), (15, 123)), ((12, 89), (15, 142), (15, 143)), ((12, 89), (15, 155), (15, 156)), ((12, 89), (15, 159), (15, 160)), ((12, 89), (15, 183), (15, 184)), ((12, 89), (16, 10), (16, 11)), ((12, 89), (16, 14), (16, 15)), ((12, 89), (16, 19), (16, 20)), ((12, 89), (16, 24), (16, 25)), ((12, 89), (16, 28), (16, 29)), ((12, 89), (16, 32), (16, 33)), ((12, 89), (16, 36), (16, 37)), ((12, 89), (16, 41), (16, 42)), ((12, 89), (16, 53), (16, 54)), ((12, 89), (16, 59), (16, 60)), ((12, 89), (16, 63), (16, 64)), ((12, 89), (16, 67), (16, 68)), ((12, 89), (16, 71), (16, 72)), ((12, 89), (16, 75), (16, 76)), ((12, 89), (16, 79), (16, 80)), ((12, 89), (16, 87), (16, 88)), ((12, 89), (16, 91), (16, 92)), ((12, 89), (16, 99), (16, 100)), ((12, 89), (16, 108), (16, 109)), ((12, 89), (16, 113), (16, 114)), ((12, 89), (16, 117), (16, 118)), ((12, 89), (16, 121), (16, 122)), ((12, 89), (16, 126), (16, 127)), ((12, 89), (16, 131), (16, 132)), ((12, 89), (16, 136), (16, 137)), ((12, 89), (16, 140), (16, 141)), ((12, 89), (16, 144), (16, 145)), ((12, 89), (16, 148), (16, 149)), ((12, 89), (16, 152), (16, 153)), ((12, 89), (16, 156), (16, 157)), ((12, 89), (16, 161), (16, 162)), ((12, 89), (16, 166), (16, 167)), ((12, 89), (16, 170), (16, 171)), ((12, 89), (16, 174), (16, 175)), ((12, 89), (16, 222), (16, 223)), ((12, 89), (17, 5), (17, 6)), ((12, 89), (17, 13), (17, 14)), ((12, 89), (17, 21), (17, 22)), ((12, 89), (17, 25), (17, 26)), ((12, 89), (17, 29), (17, 30)), ((12, 89), (17, 36), (17, 37)), ((12, 89), (17, 60), (17, 61)), ((12, 89), (17, 74), (17, 75)), ((12, 89), (17, 79), (17, 80)), ((12, 89), (17, 83), (17, 84)), ((12, 89), (17, 87), (17, 88)), ((12, 89), (17, 132), (17, 133)), ((12, 89), (17, 136), (17, 137)), ((12, 89), (17, 140), (17, 141)), ((12, 89), (17, 145), (17, 146)), ((12, 89), (17, 150), (17, 151)), ((12, 89), (17, 154), (17, 155)), ((12, 89), (17, 195), (17, 196)), ((12, 89), (17, 199), (17, 200)), ((12, 89), (17, 203), (17, 204)), ((12, 89), (17, 207), (17, 208)), ((12, 89), (17, 211), (17, 212)), ((12, 89), (17, 215), (17, 216)), ((12, 89), (17, 219), (17, 220)), ((12, 89), (17, 223), (17, 224)), ((12, 89), (17, 227), (17, 228)), ((12, 89), (17, 231), (17, 232)), ((12, 89), (17, 237), (17, 238)), ((12, 89), (18, 3), (18, 4)), ((12, 89), (18, 8), (18, 9)), ((12, 89), (18, 12), (18, 13))]
def mz_all2 {α β : Type} (f : α → β → Bool) : List α → List β → Bool
  | [], _ => true
  | _ :: _, [] => false
  | a :: l, b :: r => f a b && mz_all2 f l r
theorem mz_all2_ok {α β : Type} {f : α → β → Bool} : ∀ {l : List α} {r : List β}, mz_all2 f l r = true → ∀ a ∈ l, ∃ b, f a b = true := by
  intro l
  induction l with
  | nil => intro r _ a ha; exact absurd ha List.not_mem_nil
  | cons x l ih =>
    intro r h a ha
    cases r with
    | nil => cases h
    | cons y r =>
      have h' : (f x y && mz_all2 f l r) = true := h
      rw [Bool.and_eq_true] at h'
      rcases List.mem_cons.mp ha with rfl | ha
      · exact ⟨y, h'.1⟩
      · exact ih h'.2 a ha
def lw_tbl : List Cond := k2_sels lw_privs ++ tables_1
theorem mz_privs_b : mz_all2 (fun q h => decide (q.1.cls ≠ "java/lang/invoke/MethodHandle") && decide (q.1.cls ≠ "java/lang/invoke/VarHandle") && mz_has (mz_ct h.1.1) h.1.2 (.instantiable q.1.cls q.2) && mz_has (mz_ct h.2.1.1) h.2.1.2 (.privateMethod q.1) && mz_has (mz_ct h.2.2.1) h.2.2.2 (.instanceMethod q.1)) lw_privs mz_ph = true := by decide +kernel
theorem lw_privs_ok : ∀ q ∈ lw_privs, lw_okq q := by
  intro q hq
  obtain ⟨h, hh⟩ := mz_all2_ok mz_privs_b q hq
  simp only [Bool.and_eq_true, decide_eq_true_eq] at hh
  exact ⟨⟨hh.1.1.1.1, hh.1.1.1.2⟩, mz_hasC hh.1.1.2, mz_hasC hh.1.2, mz_hasC hh.2⟩
