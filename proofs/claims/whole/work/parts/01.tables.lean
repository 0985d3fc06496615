-- written by wip/whole/gen01.py: tables of the engine, out of the Statement's words
def eCN : List String := ["DownAsUp$Builder", "DownAsUp$Carrier", "DownAsUp$Sheets", "DownAsUp$Tape", "DownAsUp$Town", "DownAsUp$Ways", "DownAsUp", "DownAsUpModel", "java/lang/Math", "java/lang/Integer", "java/util/Arrays", "java/lang/String", "java/lang/StringLatin1", "DownAsUpLaw"]
def eFd0 : List (String × String × String × Bool) := [("DownAsUp$Builder", "order", "[I", true)]
def eFt0 : List FieldType := [.array .int]
def eFd1 : List (String × String × String × Bool) := [("DownAsUp$Carrier", "heapPlace", "[I", true), ("DownAsUp$Carrier", "heapLeft", "[I", true), ("DownAsUp$Carrier", "heapWay", "[I", true), ("DownAsUp$Carrier", "heapVia", "[I", true), ("DownAsUp$Carrier", "sitePlace", "[I", true), ("DownAsUp$Carrier", "siteLack", "[I", true), ("DownAsUp$Carrier", "siteWay", "[I", true), ("DownAsUp$Carrier", "siteVia", "[I", true), ("DownAsUp$Carrier", "brought", "[I", true), ("DownAsUp$Carrier", "heaps", "I", false), ("DownAsUp$Carrier", "sites", "I", false), ("DownAsUp$Carrier", "lacking", "I", false), ("DownAsUp$Carrier", "lying", "I", false)]
def eFt1 : List FieldType := [.array .int, .array .int, .array .int, .array .int, .array .int, .array .int, .array .int, .array .int, .array .int, .int, .int, .int, .int]
def eFd2 : List (String × String × String × Bool) := [("DownAsUp$Sheets", "items", "[J", true), ("DownAsUp$Sheets", "lanes", "[I", true), ("DownAsUp$Sheets", "sizes", "[I", true)]
def eFt2 : List FieldType := [.array .long, .array .int, .array .int]
def eFd3 : List (String × String × String × Bool) := [("DownAsUp$Tape", "bytes", "[C", true), ("DownAsUp$Tape", "size", "I", false), ("DownAsUp$Tape", "at", "I", false)]
def eFt3 : List FieldType := [.array .char, .int, .int]
def eFd4 : List (String × String × String × Bool) := [("DownAsUp$Town", "kinds", "[I", true), ("DownAsUp$Town", "yards", "[I", true), ("DownAsUp$Town", "places", "[I", true), ("DownAsUp$Town", "owners", "[I", true), ("DownAsUp$Town", "rests", "[I", true), ("DownAsUp$Town", "shelters", "[I", true), ("DownAsUp$Town", "parts", "I", false), ("DownAsUp$Town", "persons", "I", false), ("DownAsUp$Town", "standing", "I", false), ("DownAsUp$Town", "wanted", "I", false), ("DownAsUp$Town", "free", "I", false), ("DownAsUp$Town", "work", "I", false)]
def eFt4 : List FieldType := [.array .int, .array .int, .array .int, .array .int, .array .int, .array .int, .int, .int, .int, .int, .int, .int]
def eFd5 : List (String × String × String × Bool) := [("DownAsUp$Ways", "yards", "[I", true), ("DownAsUp$Ways", "givenByGoing", "[I", true), ("DownAsUp$Ways", "givenByComing", "[I", true), ("DownAsUp$Ways", "firm", "[Z", true), ("DownAsUp$Ways", "dry", "[Z", true), ("DownAsUp$Ways", "moves", "[I", true), ("DownAsUp$Ways", "needs", "[I", false), ("DownAsUp$Ways", "sets", "[I", true), ("DownAsUp$Ways", "found", "Z", false), ("DownAsUp$Ways", "weeks", "I", false), ("DownAsUp$Ways", "needed", "I", false), ("DownAsUp$Ways", "moveCount", "I", false), ("DownAsUp$Ways", "rows", "I", false), ("DownAsUp$Ways", "able", "I", false), ("DownAsUp$Ways", "isTabled", "Z", false), ("DownAsUp$Ways", "isSought", "Z", false), ("DownAsUp$Ways", "isShared", "Z", false)]
def eFt5 : List FieldType := [.array .int, .array .int, .array .int, .array .boolean, .array .boolean, .array .int, .array .int, .array .int, .boolean, .int, .int, .int, .int, .int, .boolean, .boolean, .boolean]
def eFd6 : List (String × String × String × Bool) := [("DownAsUp", "now", "LDownAsUp$Town;", true), ("DownAsUp", "kept", "LDownAsUp$Town;", true), ("DownAsUp", "draft", "LDownAsUp$Town;", true), ("DownAsUp", "tape", "LDownAsUp$Tape;", true), ("DownAsUp", "ways", "LDownAsUp$Ways;", true), ("DownAsUp", "carrier", "LDownAsUp$Carrier;", true), ("DownAsUp", "builders", "LDownAsUp$Builder;", true), ("DownAsUp", "sheets", "LDownAsUp$Sheets;", true), ("DownAsUp", "hasImage", "Z", false)]
def eFt6 : List FieldType := [.object "DownAsUp$Town", .object "DownAsUp$Town", .object "DownAsUp$Town", .object "DownAsUp$Tape", .object "DownAsUp$Ways", .object "DownAsUp$Carrier", .object "DownAsUp$Builder", .object "DownAsUp$Sheets", .boolean]
def eFd7 : List (String × String × String × Bool) := [("DownAsUpModel", "z", "[I", true), ("DownAsUpModel", "many", "I", false), ("DownAsUpModel", "stands", "I", false), ("DownAsUpModel", "wanted", "I", false), ("DownAsUpModel", "free", "I", false), ("DownAsUpModel", "work", "I", false), ("DownAsUpModel", "shelters", "[I", true), ("DownAsUpModel", "people", "I", false), ("DownAsUpModel", "tape", "[I", true), ("DownAsUpModel", "taped", "I", false), ("DownAsUpModel", "place", "I", false), ("DownAsUpModel", "reads", "I", false), ("DownAsUpModel", "readStands", "I", false), ("DownAsUpModel", "read", "[I", true), ("DownAsUpModel", "yards", "[I", true), ("DownAsUpModel", "restful", "[Z", true), ("DownAsUpModel", "gives", "[I", true), ("DownAsUpModel", "wantsOf", "[I", true), ("DownAsUpModel", "needs", "[I", true), ("DownAsUpModel", "least", "[I", true), ("DownAsUpModel", "row", "[I", true), ("DownAsUpModel", "left", "[I", true), ("DownAsUpModel", "wants", "[I", true), ("DownAsUpModel", "moved", "[I", true), ("DownAsUpModel", "costTo", "[I", true), ("DownAsUpModel", "before", "[I", true), ("DownAsUpModel", "order", "[I", true), ("DownAsUpModel", "cans", "[Z", true), ("DownAsUpModel", "isKept", "Z", false), ("DownAsUpModel", "kept", "[I", true), ("DownAsUpModel", "keptCounts", "[I", true), ("DownAsUpModel", "lanes", "[I", true), ("DownAsUpModel", "rowSizes", "[I", true), ("DownAsUpModel", "items", "[J", true), ("DownAsUpModel", "bookStands", "I", false), ("DownAsUpModel", "carried", "[J", true)]
def eFt7 : List FieldType := [.array .int, .int, .int, .int, .int, .int, .array .int, .int, .array .int, .int, .int, .int, .int, .array .int, .array .int, .array .boolean, .array .int, .array .int, .array .int, .array .int, .array .int, .array .int, .array .int, .array .int, .array .int, .array .int, .array .int, .array .boolean, .boolean, .array .int, .array .int, .array .int, .array .int, .array .long, .int, .array .long]
def eFd : Nat → List (String × String × String × Bool)
  | 0 => eFd0
  | 1 => eFd1
  | 2 => eFd2
  | 3 => eFd3
  | 4 => eFd4
  | 5 => eFd5
  | 6 => eFd6
  | 7 => eFd7
  | _ => []
def eFt : Nat → List FieldType
  | 0 => eFt0
  | 1 => eFt1
  | 2 => eFt2
  | 3 => eFt3
  | 4 => eFt4
  | 5 => eFt5
  | 6 => eFt6
  | 7 => eFt7
  | _ => []
def eU (ci : Nat) : u_T := fun k => (eFd ci).getD k ("", "", "", false)
def eCl : List vw_C := [("DownAsUp$Builder", eU 0, 1), ("DownAsUp$Carrier", eU 1, 13), ("DownAsUp$Sheets", eU 2, 3), ("DownAsUp$Tape", eU 3, 3), ("DownAsUp$Town", eU 4, 12), ("DownAsUp$Ways", eU 5, 17), ("DownAsUp", eU 6, 9), ("DownAsUpModel", eU 7, 36)]
def eFp : Nat → List Nat
  | 0 => [298]
  | 1 => [264, 266, 268, 270, 272, 274, 276, 278, 280, 282, 284, 286, 288]
  | 2 => [310, 312, 314]
  | 3 => [174, 176, 178]
  | 4 => [137, 139, 141, 143, 145, 147, 149, 151, 153, 155, 157, 159]
  | 5 => [209, 211, 213, 215, 217, 219, 221, 223, 225, 227, 229, 231, 233, 235, 237, 239, 241]
  | 6 => [327, 329, 331, 333, 335, 337, 339, 341, 343]
  | 7 => [980, 982, 984, 986, 988, 990, 992, 994, 996, 998, 1000, 1002, 1004, 1006, 1008, 1010, 1012, 1014, 1016, 1018, 1020, 1022, 1024, 1026, 1028, 1030, 1032, 1034, 1036, 1038, 1040, 1042, 1044, 1046, 1048, 1050]
  | _ => []
def eY : List MethodName := [⟨"DownAsUp", "<init>", "()V"⟩,
  ⟨"DownAsUp$Town", "<init>", "()V"⟩,
  ⟨"DownAsUp$Tape", "<init>", "()V"⟩,
  ⟨"DownAsUp$Ways", "<init>", "()V"⟩,
  ⟨"DownAsUp$Carrier", "<init>", "()V"⟩,
  ⟨"DownAsUp$Builder", "<init>", "()V"⟩,
  ⟨"DownAsUp$Sheets", "<init>", "()V"⟩,
  ⟨"DownAsUp", "part", "(IIIII)I"⟩,
  ⟨"DownAsUp$Town", "isKind", "(I)Z"⟩,
  ⟨"DownAsUp$Town", "isYards", "(I)Z"⟩,
  ⟨"DownAsUp$Town", "isPlace", "(I)Z"⟩,
  ⟨"DownAsUp$Town", "isOwner", "(I)Z"⟩,
  ⟨"DownAsUp$Town", "isSet", "(J)Z"⟩,
  ⟨"DownAsUp$Town", "all", "()I"⟩,
  ⟨"DownAsUp$Town", "isBuiltUp", "()Z"⟩,
  ⟨"DownAsUp$Town", "addPart", "(IIIII)V"⟩,
  ⟨"DownAsUp$Ways", "forget", "()V"⟩,
  ⟨"DownAsUp", "told", "(II)I"⟩,
  ⟨"DownAsUp$Town", "isPart", "(I)Z"⟩,
  ⟨"DownAsUp", "stand", "(I)I"⟩,
  ⟨"DownAsUp$Town", "isFirm", "(I)Z"⟩,
  ⟨"DownAsUp", "person", "(I)I"⟩,
  ⟨"DownAsUp$Town", "isPeopled", "()Z"⟩,
  ⟨"DownAsUp$Town", "addPerson", "(I)V"⟩,
  ⟨"DownAsUp", "set", "(II)I"⟩,
  ⟨"DownAsUp", "want", "(I)I"⟩,
  ⟨"DownAsUp", "type", "(JI)I"⟩,
  ⟨"DownAsUp$Tape", "isPlain", "(JI)Z"⟩,
  ⟨"DownAsUp$Tape", "hasRoom", "(I)Z"⟩,
  ⟨"DownAsUp$Tape", "append", "(JI)V"⟩,
  ⟨"DownAsUp", "town", "()I"⟩,
  ⟨"DownAsUp$Town", "takeOver", "(LDownAsUp$Town;)V"⟩,
  ⟨"DownAsUp$Town", "raze", "()V"⟩,
  ⟨"DownAsUp$Tape", "readTown", "(LDownAsUp$Town;)Z"⟩,
  ⟨"DownAsUp$Tape", "readPart", "(LDownAsUp$Town;)Z"⟩,
  ⟨"DownAsUp$Tape", "next", "()C"⟩,
  ⟨"java/lang/Math", "max", "(II)I"⟩,
  ⟨"java/lang/Math", "min", "(II)I"⟩,
  ⟨"DownAsUp$Tape", "readNumber", "(II)I"⟩,
  ⟨"DownAsUp$Tape", "isDigit", "(C)Z"⟩,
  ⟨"DownAsUp$Tape", "take", "(C)Z"⟩,
  ⟨"DownAsUp$Tape", "readDigit", "(I)I"⟩,
  ⟨"DownAsUp$Tape", "readParts", "(I)I"⟩,
  ⟨"DownAsUp", "endOfReading", "(ZI)I"⟩,
  ⟨"DownAsUp$Tape", "empty", "()V"⟩,
  ⟨"DownAsUp", "people", "()I"⟩,
  ⟨"DownAsUp$Tape", "readPeople", "(LDownAsUp$Town;)Z"⟩,
  ⟨"DownAsUp", "count", "(I)I"⟩,
  ⟨"DownAsUp$Town", "yardsOf", "(I)I"⟩,
  ⟨"DownAsUp$Town", "sheltered", "(I)I"⟩,
  ⟨"DownAsUp", "may", "(II)I"⟩,
  ⟨"DownAsUp$Town", "isWeek", "(JJ)Z"⟩,
  ⟨"DownAsUp$Town", "isLawful", "(II)Z"⟩,
  ⟨"DownAsUp$Town", "over", "(II)I"⟩,
  ⟨"DownAsUp$Town", "givenByGoing", "(I)I"⟩,
  ⟨"DownAsUp$Town", "givenByComing", "(I)I"⟩,
  ⟨"DownAsUp$Town", "isEveryoneDry", "(I)Z"⟩,
  ⟨"DownAsUp", "week", "(II)I"⟩,
  ⟨"DownAsUp$Town", "pass", "(II)V"⟩,
  ⟨"DownAsUp", "can", "(I)I"⟩,
  ⟨"DownAsUp$Ways", "seekWanted", "(LDownAsUp$Town;)V"⟩,
  ⟨"DownAsUp$Ways", "seek", "(LDownAsUp$Town;I)Z"⟩,
  ⟨"DownAsUp$Ways", "table", "(LDownAsUp$Town;)V"⟩,
  ⟨"DownAsUp$Ways", "sumUp", "(LDownAsUp$Town;I)V"⟩,
  ⟨"DownAsUp$Ways", "listMoves", "(LDownAsUp$Town;I)V"⟩,
  ⟨"java/util/Arrays", "fill", "([IIII)V"⟩,
  ⟨"java/util/Arrays", "rangeCheck", "(III)V"⟩,
  ⟨"DownAsUp$Ways", "growRow", "(I)Z"⟩,
  ⟨"java/util/Arrays", "copyOf", "([II)[I"⟩,
  ⟨"DownAsUp$Ways", "growFrom", "(III)Z"⟩,
  ⟨"DownAsUp$Ways", "given", "(II)I"⟩,
  ⟨"DownAsUp$Ways", "traceFirst", "(LDownAsUp$Town;)V"⟩,
  ⟨"DownAsUp$Ways", "leastStep", "(LDownAsUp$Town;III)I"⟩,
  ⟨"DownAsUp", "more", "()I"⟩,
  ⟨"DownAsUp", "carry", "(II)I"⟩,
  ⟨"DownAsUp$Carrier", "load", "(LDownAsUp$Town;II)V"⟩,
  ⟨"java/util/Arrays", "fill", "([II)V"⟩,
  ⟨"DownAsUp$Carrier", "addHeap", "(II)V"⟩,
  ⟨"DownAsUp$Carrier", "addSite", "(II)V"⟩,
  ⟨"DownAsUp$Carrier", "isEnough", "()Z"⟩,
  ⟨"DownAsUp$Carrier", "leastCarried", "()I"⟩,
  ⟨"DownAsUp$Carrier", "findWays", "()V"⟩,
  ⟨"DownAsUp$Carrier", "shorten", "(II)Z"⟩,
  ⟨"DownAsUp$Carrier", "far", "(II)I"⟩,
  ⟨"java/lang/Math", "abs", "(I)I"⟩,
  ⟨"DownAsUp$Carrier", "nearestSite", "()I"⟩,
  ⟨"DownAsUp$Carrier", "bring", "(I)I"⟩,
  ⟨"DownAsUp$Carrier", "ship", "(II)V"⟩,
  ⟨"DownAsUp", "build", "(II)I"⟩,
  ⟨"DownAsUp$Builder", "isBuilder", "(I)Z"⟩,
  ⟨"DownAsUp$Builder", "lineUp", "(LDownAsUp$Town;I)V"⟩,
  ⟨"DownAsUp$Builder", "sortByYards", "(LDownAsUp$Town;)V"⟩,
  ⟨"DownAsUp$Builder", "turnAround", "(I)V"⟩,
  ⟨"DownAsUp$Builder", "goOn", "(LDownAsUp$Town;)Z"⟩,
  ⟨"DownAsUp$Builder", "doesTwo", "(LDownAsUp$Town;II)Z"⟩,
  ⟨"DownAsUp$Builder", "doesOne", "(LDownAsUp$Town;IZ)Z"⟩,
  ⟨"DownAsUp", "worth", "(II)I"⟩,
  ⟨"DownAsUp$Ways", "turningOrders", "(LDownAsUp$Town;I)I"⟩,
  ⟨"DownAsUp$Ways", "ableCompanies", "(LDownAsUp$Town;)I"⟩,
  ⟨"DownAsUp$Ways", "hasAblePart", "(II)Z"⟩,
  ⟨"DownAsUp$Ways", "isAble", "(II)Z"⟩,
  ⟨"DownAsUp$Ways", "partsOf", "(LDownAsUp$Town;I)I"⟩,
  ⟨"java/lang/Integer", "bitCount", "(I)I"⟩,
  ⟨"DownAsUp$Ways", "sharedDivisor", "(I)I"⟩,
  ⟨"DownAsUp", "image", "()I"⟩,
  ⟨"DownAsUp", "restore", "()I"⟩,
  ⟨"DownAsUp", "judged", "(IIII)I"⟩,
  ⟨"DownAsUp", "refusalOfBook", "(IIII)I"⟩,
  ⟨"DownAsUp$Sheets", "refusal", "(IIII)I"⟩,
  ⟨"DownAsUp$Sheets", "isNamed", "(II)Z"⟩,
  ⟨"DownAsUp$Sheets", "isSheet", "(I)Z"⟩,
  ⟨"DownAsUp$Sheets", "isNothing", "(I)Z"⟩,
  ⟨"DownAsUp$Sheets", "holds", "(III)Z"⟩,
  ⟨"DownAsUp", "firstUnlawful", "(IIII)I"⟩,
  ⟨"DownAsUp", "draftPasses", "(II)Z"⟩,
  ⟨"DownAsUp$Sheets", "look", "(II)J"⟩,
  ⟨"DownAsUp", "wrong", "(IIIII)I"⟩,
  ⟨"DownAsUp", "sheet", "(III)I"⟩,
  ⟨"DownAsUp$Sheets", "renew", "(III)V"⟩,
  ⟨"java/util/Arrays", "fill", "([JIIJ)V"⟩,
  ⟨"DownAsUp", "drop", "(I)I"⟩,
  ⟨"DownAsUp$Sheets", "clear", "(I)I"⟩,
  ⟨"DownAsUp", "item", "(IIIJ)I"⟩,
  ⟨"DownAsUp$Sheets", "put", "(IIJ)V"⟩,
  ⟨"DownAsUp", "film", "(III)I"⟩,
  ⟨"DownAsUp", "copy", "(IIIII)I"⟩,
  ⟨"DownAsUp$Sheets", "areAlike", "(II)Z"⟩,
  ⟨"DownAsUp$Sheets", "bring", "(IIIII)V"⟩,
  ⟨"DownAsUpModel", "<init>", "()V"⟩,
  ⟨"DownAsUpModel", "part", "(IIIII)I"⟩,
  ⟨"DownAsUpModel", "in", "(JJJ)Z"⟩,
  ⟨"DownAsUpModel", "isSet", "(J)Z"⟩,
  ⟨"DownAsUpModel", "add", "(IIIII)V"⟩,
  ⟨"DownAsUpModel", "told", "(II)I"⟩,
  ⟨"DownAsUpModel", "stand", "(I)I"⟩,
  ⟨"DownAsUpModel", "rests", "(I)Z"⟩,
  ⟨"DownAsUpModel", "has", "(II)Z"⟩,
  ⟨"DownAsUpModel", "person", "(I)I"⟩,
  ⟨"DownAsUpModel", "set", "(II)I"⟩,
  ⟨"DownAsUpModel", "want", "(I)I"⟩,
  ⟨"DownAsUpModel", "count", "(I)I"⟩,
  ⟨"DownAsUpModel", "yardsOf", "(I)I"⟩,
  ⟨"DownAsUpModel", "shelteredBy", "(I)I"⟩,
  ⟨"DownAsUpModel", "type", "(JI)I"⟩,
  ⟨"DownAsUpModel", "town", "()I"⟩,
  ⟨"DownAsUpModel", "readAll", "(Z)Z"⟩,
  ⟨"DownAsUpModel", "readPart", "(I)Z"⟩,
  ⟨"DownAsUpModel", "nextByte", "()I"⟩,
  ⟨"DownAsUpModel", "readNumber", "(II)I"⟩,
  ⟨"DownAsUpModel", "takes", "(I)Z"⟩,
  ⟨"DownAsUpModel", "readSet", "(I)I"⟩,
  ⟨"DownAsUpModel", "people", "()I"⟩,
  ⟨"DownAsUpModel", "may", "(II)I"⟩,
  ⟨"DownAsUpModel", "isWeek", "(IJJ)Z"⟩,
  ⟨"DownAsUpModel", "isLawful", "(IIII)Z"⟩,
  ⟨"DownAsUpModel", "mayElse", "(III)Z"⟩,
  ⟨"DownAsUpModel", "moreBy", "(II)I"⟩,
  ⟨"DownAsUpModel", "givenBy", "(I)I"⟩,
  ⟨"DownAsUpModel", "takenBy", "(I)I"⟩,
  ⟨"DownAsUpModel", "week", "(II)I"⟩,
  ⟨"DownAsUpModel", "doWeek", "(II)V"⟩,
  ⟨"DownAsUpModel", "most", "(I)I"⟩,
  ⟨"DownAsUpModel", "can", "(I)I"⟩,
  ⟨"DownAsUpModel", "findRow", "()I"⟩,
  ⟨"DownAsUpModel", "findNeeds", "(II)I"⟩,
  ⟨"DownAsUpModel", "findSets", "()V"⟩,
  ⟨"DownAsUpModel", "needBy", "(III)I"⟩,
  ⟨"DownAsUpModel", "more", "()I"⟩,
  ⟨"DownAsUpModel", "carry", "(II)I"⟩,
  ⟨"DownAsUpModel", "findWay", "()I"⟩,
  ⟨"DownAsUpModel", "apart", "(II)I"⟩,
  ⟨"DownAsUpModel", "placeOf", "(I)I"⟩,
  ⟨"DownAsUpModel", "tryNode", "(III)Z"⟩,
  ⟨"DownAsUpModel", "moveBy", "(I)I"⟩,
  ⟨"DownAsUpModel", "build", "(II)I"⟩,
  ⟨"DownAsUpModel", "findOrder", "(I)V"⟩,
  ⟨"DownAsUpModel", "buildBy", "(ZZ)Z"⟩,
  ⟨"DownAsUpModel", "worth", "(II)I"⟩,
  ⟨"DownAsUpModel", "partsOf", "(I)I"⟩,
  ⟨"DownAsUpModel", "ones", "(I)I"⟩,
  ⟨"DownAsUpModel", "common", "(II)I"⟩,
  ⟨"DownAsUpModel", "image", "()I"⟩,
  ⟨"DownAsUpModel", "restore", "()I"⟩,
  ⟨"DownAsUpModel", "sheet", "(III)I"⟩,
  ⟨"DownAsUpModel", "isSheet", "(II)Z"⟩,
  ⟨"DownAsUpModel", "drop", "(I)I"⟩,
  ⟨"DownAsUpModel", "item", "(IIIJ)I"⟩,
  ⟨"DownAsUpModel", "lacksRow", "(IIII)I"⟩,
  ⟨"DownAsUpModel", "asLane", "(IJ)J"⟩,
  ⟨"DownAsUpModel", "judged", "(IIII)I"⟩,
  ⟨"DownAsUpModel", "judge", "(III)I"⟩,
  ⟨"DownAsUpModel", "wrong", "(IIIII)I"⟩,
  ⟨"DownAsUpModel", "film", "(III)I"⟩,
  ⟨"DownAsUpModel", "copy", "(IIIII)I"⟩,
  ⟨"java/lang/String", "indexOf", "(I)I"⟩,
  ⟨"java/lang/String", "indexOf", "(II)I"⟩,
  ⟨"java/lang/String", "isLatin1", "()Z"⟩,
  ⟨"java/lang/String", "length", "()I"⟩,
  ⟨"java/lang/String", "coder", "()B"⟩,
  ⟨"java/lang/StringLatin1", "indexOf", "([BIII)I"⟩,
  ⟨"java/lang/StringLatin1", "canEncode", "(I)Z"⟩,
  ⟨"java/lang/StringLatin1", "indexOfChar", "([BIII)I"⟩,
  ⟨"DownAsUpLaw", "law", "([I)Z"⟩]
def eBy : Nat → ByteArray
  | 0 => prog_1_method_1_code
  | 1 => prog_6_method_1_code
  | 2 => prog_5_method_1_code
  | 3 => prog_7_method_1_code
  | 4 => prog_3_method_1_code
  | 5 => prog_2_method_1_code
  | 6 => prog_4_method_1_code
  | 7 => prog_1_method_2_code
  | 8 => prog_6_method_2_code
  | 9 => prog_6_method_3_code
  | 10 => prog_6_method_4_code
  | 11 => prog_6_method_5_code
  | 12 => prog_6_method_8_code
  | 13 => prog_6_method_7_code
  | 14 => prog_6_method_9_code
  | 15 => prog_6_method_11_code
  | 16 => prog_7_method_2_code
  | 17 => prog_1_method_3_code
  | 18 => prog_6_method_6_code
  | 19 => prog_1_method_4_code
  | 20 => prog_6_method_19_code
  | 21 => prog_1_method_5_code
  | 22 => prog_6_method_10_code
  | 23 => prog_6_method_12_code
  | 24 => prog_1_method_6_code
  | 25 => prog_1_method_7_code
  | 26 => prog_1_method_8_code
  | 27 => prog_5_method_2_code
  | 28 => prog_5_method_3_code
  | 29 => prog_5_method_4_code
  | 30 => prog_1_method_9_code
  | 31 => prog_6_method_14_code
  | 32 => prog_6_method_13_code
  | 33 => prog_5_method_6_code
  | 34 => prog_5_method_8_code
  | 35 => prog_5_method_9_code
  | 36 => prog_13_method_65_code
  | 37 => prog_13_method_69_code
  | 38 => prog_5_method_11_code
  | 39 => prog_5_method_14_code
  | 40 => prog_5_method_10_code
  | 41 => prog_5_method_12_code
  | 42 => prog_5_method_13_code
  | 43 => prog_1_method_11_code
  | 44 => prog_5_method_5_code
  | 45 => prog_1_method_10_code
  | 46 => prog_5_method_7_code
  | 47 => prog_1_method_12_code
  | 48 => prog_6_method_17_code
  | 49 => prog_6_method_20_code
  | 50 => prog_1_method_13_code
  | 51 => prog_6_method_22_code
  | 52 => prog_6_method_23_code
  | 53 => prog_6_method_18_code
  | 54 => prog_6_method_15_code
  | 55 => prog_6_method_16_code
  | 56 => prog_6_method_21_code
  | 57 => prog_1_method_14_code
  | 58 => prog_6_method_24_code
  | 59 => prog_1_method_15_code
  | 60 => prog_7_method_3_code
  | 61 => prog_7_method_10_code
  | 62 => prog_7_method_11_code
  | 63 => prog_7_method_12_code
  | 64 => prog_7_method_13_code
  | 65 => prog_18_method_104_code
  | 66 => prog_18_method_30_code
  | 67 => prog_7_method_14_code
  | 68 => prog_18_method_123_code
  | 69 => prog_7_method_15_code
  | 70 => prog_7_method_16_code
  | 71 => prog_7_method_17_code
  | 72 => prog_7_method_18_code
  | 73 => prog_1_method_16_code
  | 74 => prog_1_method_17_code
  | 75 => prog_3_method_2_code
  | 76 => prog_18_method_103_code
  | 77 => prog_3_method_3_code
  | 78 => prog_3_method_4_code
  | 79 => prog_3_method_5_code
  | 80 => prog_3_method_6_code
  | 81 => prog_3_method_8_code
  | 82 => prog_3_method_9_code
  | 83 => prog_3_method_7_code
  | 84 => prog_13_method_59_code
  | 85 => prog_3_method_10_code
  | 86 => prog_3_method_11_code
  | 87 => prog_3_method_12_code
  | 88 => prog_1_method_18_code
  | 89 => prog_2_method_2_code
  | 90 => prog_2_method_3_code
  | 91 => prog_2_method_4_code
  | 92 => prog_2_method_5_code
  | 93 => prog_2_method_6_code
  | 94 => prog_2_method_7_code
  | 95 => prog_2_method_8_code
  | 96 => prog_1_method_19_code
  | 97 => prog_7_method_4_code
  | 98 => prog_7_method_7_code
  | 99 => prog_7_method_8_code
  | 100 => prog_7_method_6_code
  | 101 => prog_7_method_9_code
  | 102 => prog_12_method_49_code
  | 103 => prog_7_method_5_code
  | 104 => prog_1_method_20_code
  | 105 => prog_1_method_21_code
  | 106 => prog_1_method_22_code
  | 107 => prog_1_method_24_code
  | 108 => prog_4_method_7_code
  | 109 => prog_4_method_3_code
  | 110 => prog_4_method_2_code
  | 111 => prog_4_method_4_code
  | 112 => prog_4_method_6_code
  | 113 => prog_1_method_25_code
  | 114 => prog_1_method_26_code
  | 115 => prog_4_method_10_code
  | 116 => prog_1_method_23_code
  | 117 => prog_1_method_27_code
  | 118 => prog_4_method_8_code
  | 119 => prog_18_method_102_code
  | 120 => prog_1_method_28_code
  | 121 => prog_4_method_9_code
  | 122 => prog_1_method_29_code
  | 123 => prog_4_method_11_code
  | 124 => prog_1_method_30_code
  | 125 => prog_1_method_31_code
  | 126 => prog_4_method_5_code
  | 127 => prog_4_method_12_code
  | 128 => prog_9_method_1_code
  | 129 => prog_9_method_6_code
  | 130 => prog_9_method_2_code
  | 131 => prog_9_method_4_code
  | 132 => prog_9_method_5_code
  | 133 => prog_9_method_7_code
  | 134 => prog_9_method_9_code
  | 135 => prog_9_method_8_code
  | 136 => prog_9_method_3_code
  | 137 => prog_9_method_10_code
  | 138 => prog_9_method_11_code
  | 139 => prog_9_method_12_code
  | 140 => prog_9_method_15_code
  | 141 => prog_9_method_13_code
  | 142 => prog_9_method_14_code
  | 143 => prog_9_method_16_code
  | 144 => prog_9_method_23_code
  | 145 => prog_9_method_22_code
  | 146 => prog_9_method_21_code
  | 147 => prog_9_method_17_code
  | 148 => prog_9_method_19_code
  | 149 => prog_9_method_18_code
  | 150 => prog_9_method_20_code
  | 151 => prog_9_method_24_code
  | 152 => prog_9_method_32_code
  | 153 => prog_9_method_29_code
  | 154 => prog_9_method_30_code
  | 155 => prog_9_method_28_code
  | 156 => prog_9_method_27_code
  | 157 => prog_9_method_25_code
  | 158 => prog_9_method_26_code
  | 159 => prog_9_method_34_code
  | 160 => prog_9_method_33_code
  | 161 => prog_9_method_31_code
  | 162 => prog_9_method_39_code
  | 163 => prog_9_method_38_code
  | 164 => prog_9_method_37_code
  | 165 => prog_9_method_35_code
  | 166 => prog_9_method_36_code
  | 167 => prog_9_method_40_code
  | 168 => prog_9_method_46_code
  | 169 => prog_9_method_44_code
  | 170 => prog_9_method_42_code
  | 171 => prog_9_method_41_code
  | 172 => prog_9_method_43_code
  | 173 => prog_9_method_45_code
  | 174 => prog_9_method_49_code
  | 175 => prog_9_method_47_code
  | 176 => prog_9_method_48_code
  | 177 => prog_9_method_53_code
  | 178 => prog_9_method_50_code
  | 179 => prog_9_method_52_code
  | 180 => prog_9_method_51_code
  | 181 => prog_9_method_54_code
  | 182 => prog_9_method_55_code
  | 183 => prog_9_method_58_code
  | 184 => prog_9_method_56_code
  | 185 => prog_9_method_59_code
  | 186 => prog_9_method_61_code
  | 187 => prog_9_method_60_code
  | 188 => prog_9_method_57_code
  | 189 => prog_9_method_63_code
  | 190 => prog_9_method_62_code
  | 191 => prog_9_method_64_code
  | 192 => prog_9_method_65_code
  | 193 => prog_9_method_66_code
  | 194 => prog_14_method_79_code
  | 195 => prog_14_method_80_code
  | 196 => prog_14_method_154_code
  | 197 => prog_14_method_54_code
  | 198 => prog_14_method_152_code
  | 199 => prog_15_method_22_code
  | 200 => prog_15_method_4_code
  | 201 => prog_15_method_23_code
  | 202 => code
  | _ => ⟨#[]⟩
def eMx : List Nat := [1, 1, 1, 1, 1, 1, 1, 6, 1, 1, 1, 1, 3, 1, 1, 6, 1, 3, 2, 3, 3, 2, 1, 2, 4, 3, 4, 6, 2, 5, 2, 2, 1, 3, 8, 1, 2, 2, 5, 1, 2, 3, 5, 4, 1, 2, 4, 2, 4, 4, 3, 5, 3, 5, 2, 2, 2, 3, 3, 2, 2, 5, 3, 4, 4, 5, 3, 7, 3, 8, 3, 6, 7, 1, 3, 5, 4, 3, 3, 1, 6, 5, 4, 3, 1, 3, 6, 6, 4, 1, 4, 5, 4, 4, 8, 8, 5, 6, 4, 4, 2, 4, 1, 2, 1, 1, 7, 5, 5, 2, 1, 2, 4, 6, 7, 3, 9, 4, 4, 6, 2, 3, 7, 7, 6, 6, 3, 6, 2, 6, 6, 3, 7, 3, 3, 4, 2, 2, 4, 3, 2, 4, 4, 5, 3, 5, 4, 1, 5, 3, 4, 3, 3, 6, 5, 7, 5, 4, 2, 3, 3, 1, 3, 7, 9, 2, 8, 3, 7, 5, 4, 2, 4, 5, 4, 4, 7, 6, 4, 3, 5, 2, 2, 5, 2, 2, 7, 5, 3, 6, 11, 10, 7, 7, 2, 3, 1, 1, 1, 4, 1, 6, 4]
def eRt : List (Option FieldType) := [none, none, none, none, none, none, none, (some .int), (some .boolean), (some .boolean), (some .boolean), (some .boolean), (some .boolean), (some .int), (some .boolean), none, none, (some .int), (some .boolean), (some .int), (some .boolean), (some .int), (some .boolean), none, (some .int), (some .int), (some .int), (some .boolean), (some .boolean), none, (some .int), none, none, (some .boolean), (some .boolean), (some .char), (some .int), (some .int), (some .int), (some .boolean), (some .boolean), (some .int), (some .int), (some .int), none, (some .int), (some .boolean), (some .int), (some .int), (some .int), (some .int), (some .boolean), (some .boolean), (some .int), (some .int), (some .int), (some .boolean), (some .int), none, (some .int), none, (some .boolean), none, none, none, none, none, (some .boolean), (some (.array .int)), (some .boolean), (some .int), none, (some .int), (some .int), (some .int), none, none, none, none, (some .boolean), (some .int), none, (some .boolean), (some .int), (some .int), (some .int), (some .int), none, (some .int), (some .boolean), none, none, none, (some .boolean), (some .boolean), (some .boolean), (some .int), (some .int), (some .int), (some .boolean), (some .boolean), (some .int), (some .int), (some .int), (some .int), (some .int), (some .int), (some .int), (some .int), (some .boolean), (some .boolean), (some .boolean), (some .boolean), (some .int), (some .boolean), (some .long), (some .int), (some .int), none, none, (some .int), (some .int), (some .int), none, (some .int), (some .int), (some .boolean), none, none, (some .int), (some .boolean), (some .boolean), none, (some .int), (some .int), (some .boolean), (some .boolean), (some .int), (some .int), (some .int), (some .int), (some .int), (some .int), (some .int), (some .int), (some .boolean), (some .boolean), (some .int), (some .int), (some .boolean), (some .int), (some .int), (some .int), (some .boolean), (some .boolean), (some .boolean), (some .int), (some .int), (some .int), (some .int), none, (some .int), (some .int), (some .int), (some .int), none, (some .int), (some .int), (some .int), (some .int), (some .int), (some .int), (some .boolean), (some .int), (some .int), none, (some .boolean), (some .int), (some .int), (some .int), (some .int), (some .int), (some .int), (some .int), (some .boolean), (some .int), (some .int), (some .int), (some .long), (some .int), (some .int), (some .int), (some .int), (some .int), (some .int), (some .int), (some .boolean), (some .int), (some .byte), (some .int), (some .boolean), (some .int), (some .boolean)]
def eOw : List Nat := [6, 4, 3, 5, 1, 0, 2, 6, 4, 4, 4, 4, 4, 4, 4, 4, 5, 6, 4, 6, 4, 6, 4, 4, 6, 6, 6, 3, 3, 3, 6, 4, 4, 3, 3, 3, 8, 8, 3, 3, 3, 3, 3, 6, 3, 6, 3, 6, 4, 4, 6, 4, 4, 4, 4, 4, 4, 6, 4, 6, 5, 5, 5, 5, 5, 10, 10, 5, 10, 5, 5, 5, 5, 6, 6, 1, 10, 1, 1, 1, 1, 1, 1, 1, 8, 1, 1, 1, 6, 0, 0, 0, 0, 0, 0, 0, 6, 5, 5, 5, 5, 5, 9, 5, 6, 6, 6, 6, 2, 2, 2, 2, 2, 6, 6, 2, 6, 6, 2, 10, 6, 2, 6, 2, 6, 6, 2, 2, 7, 7, 7, 7, 7, 7, 7, 7, 7, 7, 7, 7, 7, 7, 7, 7, 7, 7, 7, 7, 7, 7, 7, 7, 7, 7, 7, 7, 7, 7, 7, 7, 7, 7, 7, 7, 7, 7, 7, 7, 7, 7, 7, 7, 7, 7, 7, 7, 7, 7, 7, 7, 7, 7, 7, 7, 7, 7, 7, 7, 7, 7, 7, 7, 7, 7, 11, 11, 11, 11, 11, 12, 12, 12, 13]
def eNa : List Nat := [0, 0, 0, 0, 0, 0, 0, 5, 1, 1, 1, 1, 1, 0, 0, 5, 0, 2, 1, 1, 1, 1, 0, 1, 2, 1, 2, 2, 1, 2, 0, 1, 0, 1, 1, 0, 2, 2, 2, 1, 1, 1, 1, 2, 0, 0, 1, 1, 1, 1, 2, 2, 2, 2, 1, 1, 1, 2, 2, 1, 1, 2, 1, 2, 2, 4, 3, 1, 2, 3, 2, 1, 4, 0, 2, 3, 2, 2, 2, 0, 0, 0, 2, 2, 1, 0, 1, 2, 2, 1, 2, 1, 1, 1, 3, 3, 2, 2, 1, 2, 2, 2, 1, 1, 0, 0, 4, 4, 4, 2, 1, 1, 3, 4, 2, 2, 5, 3, 3, 4, 1, 1, 4, 3, 3, 5, 2, 5, 0, 5, 3, 1, 5, 2, 1, 1, 2, 1, 2, 1, 1, 1, 1, 2, 0, 1, 1, 0, 2, 1, 1, 0, 2, 3, 4, 3, 2, 1, 1, 2, 2, 1, 1, 0, 2, 0, 3, 0, 2, 0, 2, 1, 3, 1, 2, 1, 2, 2, 1, 1, 2, 0, 0, 3, 2, 1, 4, 4, 2, 4, 3, 5, 3, 5, 1, 2, 0, 0, 0, 4, 1, 4, 1]
def eFr : List Nat := [2, 1, 1, 1, 1, 1, 1, 2, 0, 0, 0, 0, 1, 0, 0, 0, 0, 1, 0, 2, 0, 2, 0, 0, 1, 2, 1, 0, 0, 0, 9, 1, 0, 8, 7, 0, 0, 0, 1, 0, 1, 1, 2, 2, 0, 4, 3, 1, 0, 0, 3, 2, 2, 1, 0, 0, 1, 3, 2, 6, 5, 4, 2, 1, 1, 1, 0, 3, 2, 1, 0, 2, 1, 6, 5, 1, 0, 0, 0, 0, 4, 3, 2, 1, 0, 0, 1, 0, 5, 0, 1, 0, 0, 4, 3, 3, 7, 6, 5, 1, 0, 0, 0, 0, 2, 2, 5, 3, 2, 1, 0, 0, 0, 4, 3, 0, 5, 3, 2, 1, 1, 0, 3, 0, 6, 2, 0, 1, 1, 2, 0, 1, 0, 1, 2, 1, 0, 2, 1, 2, 2, 1, 0, 1, 4, 3, 2, 0, 1, 1, 1, 4, 4, 2, 3, 2, 1, 0, 0, 4, 2, 0, 5, 4, 3, 2, 0, 4, 3, 2, 1, 0, 0, 0, 5, 0, 4, 4, 1, 0, 0, 0, 0, 2, 1, 1, 2, 1, 0, 5, 4, 5, 5, 1, 6, 5, 0, 1, 0, 1, 0, 0, 10]
def eLo : List Nat := [40, 20, 20, 20, 20, 20, 20, 42, 0, 0, 0, 0, 20, 0, 0, 0, 0, 21, 0, 42, 0, 42, 0, 0, 20, 42, 25, 0, 0, 0, 208, 68, 0, 186, 159, 0, 0, 0, 21, 0, 20, 20, 42, 89, 0, 112, 66, 23, 0, 0, 67, 42, 45, 21, 0, 0, 23, 67, 45, 161, 140, 116, 44, 21, 20, 22, 0, 90, 68, 22, 0, 48, 22, 161, 114, 23, 0, 0, 0, 0, 89, 65, 42, 20, 0, 0, 25, 0, 117, 0, 24, 0, 0, 94, 67, 67, 188, 163, 140, 21, 0, 0, 0, 0, 89, 89, 118, 65, 41, 20, 0, 0, 0, 93, 67, 0, 118, 70, 47, 22, 22, 0, 65, 0, 161, 93, 0, 68, 20, 47, 0, 25, 0, 25, 47, 21, 0, 47, 25, 47, 44, 21, 0, 25, 96, 72, 49, 0, 25, 20, 25, 96, 94, 47, 70, 44, 23, 0, 0, 94, 47, 0, 122, 96, 68, 47, 0, 96, 72, 44, 21, 0, 0, 0, 120, 0, 94, 96, 21, 0, 0, 0, 0, 46, 25, 25, 49, 25, 0, 124, 94, 124, 122, 25, 138, 116, 0, 20, 0, 25, 0, 0, 229]
def eCd0 : List (Nat × Instr × Nat) := [(0, .aload_n 0, 1), (1, .invokespecial 1, 3), (4, .aload_n 0, 1), (5, .new 7, 3), (8, .dup, 1), (9, .invokespecial 9, 3), (12, .putfield 10, 3), (15, .aload_n 0, 1), (16, .new 7, 3), (19, .dup, 1), (20, .invokespecial 9, 3), (23, .putfield 16, 3), (26, .aload_n 0, 1), (27, .new 7, 3), (30, .dup, 1), (31, .invokespecial 9, 3), (34, .putfield 19, 3), (37, .aload_n 0, 1), (38, .new 22, 3), (41, .dup, 1), (42, .invokespecial 24, 3), (45, .putfield 25, 3), (48, .aload_n 0, 1), (49, .new 29, 3), (52, .dup, 1), (53, .invokespecial 31, 3), (56, .putfield 32, 3), (59, .aload_n 0, 1), (60, .new 36, 3), (63, .dup, 1), (64, .invokespecial 38, 3), (67, .putfield 39, 3), (70, .aload_n 0, 1), (71, .new 43, 3), (74, .dup, 1), (75, .invokespecial 45, 3), (78, .putfield 46, 3), (81, .aload_n 0, 1), (82, .new 50, 3), (85, .dup, 1), (86, .invokespecial 52, 3), (89, .putfield 53, 3), (92, .return_, 1)]
def eCd1 : List (Nat × Instr × Nat) := [(0, .aload_n 0, 1), (1, .invokespecial 1, 3), (4, .aload_n 0, 1), (5, .bipush 8, 2), (7, .newarray .int, 2), (9, .putfield 9, 3), (12, .aload_n 0, 1), (13, .bipush 8, 2), (15, .newarray .int, 2), (17, .putfield 13, 3), (20, .aload_n 0, 1), (21, .bipush 8, 2), (23, .newarray .int, 2), (25, .putfield 16, 3), (28, .aload_n 0, 1), (29, .bipush 8, 2), (31, .newarray .int, 2), (33, .putfield 19, 3), (36, .aload_n 0, 1), (37, .bipush 8, 2), (39, .newarray .int, 2), (41, .putfield 22, 3), (44, .aload_n 0, 1), (45, .iconst 4, 1), (46, .newarray .int, 2), (48, .putfield 25, 3), (51, .aload_n 0, 1), (52, .sipush 200, 3), (55, .putfield 28, 3), (58, .return_, 1)]
def eCd2 : List (Nat × Instr × Nat) := [(0, .aload_n 0, 1), (1, .invokespecial 1, 3), (4, .aload_n 0, 1), (5, .sipush 160, 3), (8, .newarray .char, 2), (10, .putfield 9, 3), (13, .return_, 1)]
def eCd3 : List (Nat × Instr × Nat) := [(0, .aload_n 0, 1), (1, .invokespecial 5, 3), (4, .aload_n 0, 1), (5, .sipush 256, 3), (8, .newarray .int, 2), (10, .putfield 13, 3), (13, .aload_n 0, 1), (14, .sipush 256, 3), (17, .newarray .int, 2), (19, .putfield 17, 3), (22, .aload_n 0, 1), (23, .sipush 256, 3), (26, .newarray .int, 2), (28, .putfield 20, 3), (31, .aload_n 0, 1), (32, .sipush 256, 3), (35, .newarray .boolean, 2), (37, .putfield 23, 3), (40, .aload_n 0, 1), (41, .sipush 256, 3), (44, .newarray .boolean, 2), (46, .putfield 27, 3), (49, .aload_n 0, 1), (50, .sipush 256, 3), (53, .newarray .int, 2), (55, .putfield 30, 3), (58, .aload_n 0, 1), (59, .sipush 2048, 3), (62, .newarray .int, 2), (64, .putfield 33, 3), (67, .aload_n 0, 1), (68, .sipush 256, 3), (71, .newarray .int, 2), (73, .putfield 36, 3), (76, .return_, 1)]
def eCd4 : List (Nat × Instr × Nat) := [(0, .aload_n 0, 1), (1, .invokespecial 3, 3), (4, .aload_n 0, 1), (5, .bipush 9, 2), (7, .newarray .int, 2), (9, .putfield 11, 3), (12, .aload_n 0, 1), (13, .bipush 9, 2), (15, .newarray .int, 2), (17, .putfield 15, 3), (20, .aload_n 0, 1), (21, .bipush 9, 2), (23, .newarray .int, 2), (25, .putfield 18, 3), (28, .aload_n 0, 1), (29, .bipush 9, 2), (31, .newarray .int, 2), (33, .putfield 21, 3), (36, .aload_n 0, 1), (37, .bipush 8, 2), (39, .newarray .int, 2), (41, .putfield 24, 3), (44, .aload_n 0, 1), (45, .bipush 8, 2), (47, .newarray .int, 2), (49, .putfield 27, 3), (52, .aload_n 0, 1), (53, .bipush 8, 2), (55, .newarray .int, 2), (57, .putfield 30, 3), (60, .aload_n 0, 1), (61, .bipush 8, 2), (63, .newarray .int, 2), (65, .putfield 33, 3), (68, .aload_n 0, 1), (69, .bipush 72, 2), (71, .newarray .int, 2), (73, .putfield 36, 3), (76, .return_, 1)]
def eCd5 : List (Nat × Instr × Nat) := [(0, .aload_n 0, 1), (1, .invokespecial 1, 3), (4, .aload_n 0, 1), (5, .bipush 8, 2), (7, .newarray .int, 2), (9, .putfield 9, 3), (12, .return_, 1)]
def eCd6 : List (Nat × Instr × Nat) := [(0, .aload_n 0, 1), (1, .invokespecial 3, 3), (4, .aload_n 0, 1), (5, .bipush 96, 2), (7, .newarray .long, 2), (9, .putfield 11, 3), (12, .aload_n 0, 1), (13, .iconst 4, 1), (14, .newarray .int, 2), (16, .putfield 15, 3), (19, .aload_n 0, 1), (20, .iconst 4, 1), (21, .newarray .int, 2), (23, .dup, 1), (24, .iconst 0, 1), (25, .iconst (-1), 1), (26, .iastore, 1), (27, .dup, 1), (28, .iconst 1, 1), (29, .iconst (-1), 1), (30, .iastore, 1), (31, .dup, 1), (32, .iconst 2, 1), (33, .iconst (-1), 1), (34, .iastore, 1), (35, .dup, 1), (36, .iconst 3, 1), (37, .iconst (-1), 1), (38, .iastore, 1), (39, .putfield 19, 3), (42, .return_, 1)]
def eCd7 : List (Nat × Instr × Nat) := [(0, .iload_n 1, 1), (1, .invokestatic 57, 3), (4, .ifCond .eq 17, 3), (7, .iload_n 2, 1), (8, .invokestatic 61, 3), (11, .ifCond .eq 10, 3), (14, .iload_n 3, 1), (15, .invokestatic 64, 3), (18, .ifCond .ne 5, 3), (21, .iconst (-1), 1), (22, .ireturn, 1), (23, .iload 4, 2), (25, .invokestatic 67, 3), (28, .ifCond .eq 16, 3), (31, .aload_n 0, 1), (32, .getfield 10, 3), (35, .iload 5, 2), (37, .i2l, 1), (38, .invokevirtual 70, 3), (41, .ifCond .ne 5, 3), (44, .iconst (-1), 1), (45, .ireturn, 1), (46, .aload_n 0, 1), (47, .getfield 10, 3), (50, .invokevirtual 74, 3), (53, .ifCond .eq 6, 3), (56, .bipush (-3), 2), (58, .ireturn, 1), (59, .aload_n 0, 1), (60, .getfield 10, 3), (63, .iload_n 1, 1), (64, .iload_n 2, 1), (65, .iload_n 3, 1), (66, .iload 4, 2), (68, .iload 5, 2), (70, .invokevirtual 78, 3), (73, .aload_n 0, 1), (74, .getfield 32, 3), (77, .invokevirtual 82, 3), (80, .aload_n 0, 1), (81, .getfield 10, 3), (84, .getfield 85, 3), (87, .iconst 1, 1), (88, .isub, 1), (89, .ireturn, 1)]
def eCd8 : List (Nat × Instr × Nat) := [(0, .iload_n 0, 1), (1, .ifCond .lt 12, 3), (4, .iload_n 0, 1), (5, .iconst 3, 1), (6, .if_icmp .gt 7, 3), (9, .iconst 1, 1), (10, .goto 4, 3), (13, .iconst 0, 1), (14, .ireturn, 1)]
def eCd9 : List (Nat × Instr × Nat) := [(0, .iload_n 0, 1), (1, .iconst 1, 1), (2, .if_icmp .lt 13, 3), (5, .iload_n 0, 1), (6, .bipush 99, 2), (8, .if_icmp .gt 7, 3), (11, .iconst 1, 1), (12, .goto 4, 3), (15, .iconst 0, 1), (16, .ireturn, 1)]
def eCd10 : List (Nat × Instr × Nat) := [(0, .iload_n 0, 1), (1, .ifCond .lt 13, 3), (4, .iload_n 0, 1), (5, .bipush 99, 2), (7, .if_icmp .gt 7, 3), (10, .iconst 1, 1), (11, .goto 4, 3), (14, .iconst 0, 1), (15, .ireturn, 1)]
def eCd11 : List (Nat × Instr × Nat) := [(0, .iload_n 0, 1), (1, .ifCond .lt 12, 3), (4, .iload_n 0, 1), (5, .iconst 4, 1), (6, .if_icmp .ge 7, 3), (9, .iconst 1, 1), (10, .goto 4, 3), (13, .iconst 0, 1), (14, .ireturn, 1)]
def eCd12 : List (Nat × Instr × Nat) := [(0, .lload_n 1, 1), (1, .lconst 0, 1), (2, .lcmp, 1), (3, .ifCond .lt 17, 3), (6, .lload_n 1, 1), (7, .aload_n 0, 1), (8, .invokevirtual 35, 3), (11, .i2l, 1), (12, .lcmp, 1), (13, .ifCond .gt 7, 3), (16, .iconst 1, 1), (17, .goto 4, 3), (20, .iconst 0, 1), (21, .ireturn, 1)]
def eCd13 : List (Nat × Instr × Nat) := [(0, .iconst 1, 1), (1, .aload_n 0, 1), (2, .getfield 32, 3), (5, .ishl, 1), (6, .iconst 1, 1), (7, .isub, 1), (8, .ireturn, 1)]
def eCd14 : List (Nat × Instr × Nat) := [(0, .aload_n 0, 1), (1, .getfield 32, 3), (4, .bipush 8, 2), (6, .if_icmp .lt 7, 3), (9, .iconst 1, 1), (10, .goto 4, 3), (13, .iconst 0, 1), (14, .ireturn, 1)]
def eCd15 : List (Nat × Instr × Nat) := [(0, .aload_n 0, 1), (1, .getfield 9, 3), (4, .aload_n 0, 1), (5, .getfield 32, 3), (8, .iload_n 1, 1), (9, .iastore, 1), (10, .aload_n 0, 1), (11, .getfield 13, 3), (14, .aload_n 0, 1), (15, .getfield 32, 3), (18, .iload_n 2, 1), (19, .iastore, 1), (20, .aload_n 0, 1), (21, .getfield 16, 3), (24, .aload_n 0, 1), (25, .getfield 32, 3), (28, .iload_n 3, 1), (29, .iastore, 1), (30, .aload_n 0, 1), (31, .getfield 19, 3), (34, .aload_n 0, 1), (35, .getfield 32, 3), (38, .iload 4, 2), (40, .iastore, 1), (41, .aload_n 0, 1), (42, .getfield 22, 3), (45, .aload_n 0, 1), (46, .getfield 32, 3), (49, .iload 5, 2), (51, .iastore, 1), (52, .aload_n 0, 1), (53, .dup, 1), (54, .getfield 32, 3), (57, .iconst 1, 1), (58, .iadd, 1), (59, .putfield 32, 3), (62, .return_, 1)]
def eCd16 : List (Nat × Instr × Nat) := [(0, .aload_n 0, 1), (1, .iconst 0, 1), (2, .putfield 39, 3), (5, .aload_n 0, 1), (6, .iconst 0, 1), (7, .putfield 43, 3), (10, .aload_n 0, 1), (11, .iconst 0, 1), (12, .putfield 46, 3), (15, .return_, 1)]
def eCd17 : List (Nat × Instr × Nat) := [(0, .aload_n 0, 1), (1, .getfield 10, 3), (4, .iload_n 1, 1), (5, .invokevirtual 89, 3), (8, .ifCond .ne 5, 3), (11, .iconst (-1), 1), (12, .ireturn, 1), (13, .iload_n 2, 1), (14, .tableswitch 100 0 5 #[38, 48, 58, 68, 78, 88], 38), (52, .aload_n 0, 1), (53, .getfield 10, 3), (56, .getfield 92, 3), (59, .iload_n 1, 1), (60, .iaload, 1), (61, .ireturn, 1), (62, .aload_n 0, 1), (63, .getfield 10, 3), (66, .getfield 96, 3), (69, .iload_n 1, 1), (70, .iaload, 1), (71, .ireturn, 1), (72, .aload_n 0, 1), (73, .getfield 10, 3), (76, .getfield 99, 3), (79, .iload_n 1, 1), (80, .iaload, 1), (81, .ireturn, 1), (82, .aload_n 0, 1), (83, .getfield 10, 3), (86, .getfield 102, 3), (89, .iload_n 1, 1), (90, .iaload, 1), (91, .ireturn, 1), (92, .aload_n 0, 1), (93, .getfield 10, 3), (96, .getfield 105, 3), (99, .iload_n 1, 1), (100, .iaload, 1), (101, .ireturn, 1), (102, .aload_n 0, 1), (103, .getfield 10, 3), (106, .getfield 108, 3), (109, .iload_n 1, 1), (110, .ishr, 1), (111, .iconst 1, 1), (112, .iand, 1), (113, .ireturn, 1), (114, .iconst (-1), 1), (115, .ireturn, 1)]
def eCd18 : List (Nat × Instr × Nat) := [(0, .iload_n 1, 1), (1, .ifCond .lt 15, 3), (4, .iload_n 1, 1), (5, .aload_n 0, 1), (6, .getfield 32, 3), (9, .if_icmp .ge 7, 3), (12, .iconst 1, 1), (13, .goto 4, 3), (16, .iconst 0, 1), (17, .ireturn, 1)]
def eCd19 : List (Nat × Instr × Nat) := [(0, .aload_n 0, 1), (1, .getfield 10, 3), (4, .iload_n 1, 1), (5, .i2l, 1), (6, .invokevirtual 70, 3), (9, .ifCond .ne 5, 3), (12, .iconst (-1), 1), (13, .ireturn, 1), (14, .aload_n 0, 1), (15, .getfield 10, 3), (18, .iload_n 1, 1), (19, .invokevirtual 111, 3), (22, .ifCond .ne 6, 3), (25, .bipush (-2), 2), (27, .ireturn, 1), (28, .aload_n 0, 1), (29, .getfield 10, 3), (32, .getfield 108, 3), (35, .istore_n 2, 1), (36, .aload_n 0, 1), (37, .getfield 10, 3), (40, .iload_n 1, 1), (41, .putfield 108, 3), (44, .aload_n 0, 1), (45, .getfield 32, 3), (48, .invokevirtual 82, 3), (51, .iload_n 2, 1), (52, .ireturn, 1)]
def eCd20 : List (Nat × Instr × Nat) := [(0, .iconst 0, 1), (1, .istore_n 2, 1), (2, .iload_n 2, 1), (3, .aload_n 0, 1), (4, .getfield 32, 3), (7, .if_icmp .ge 33, 3), (10, .iload_n 1, 1), (11, .iload_n 2, 1), (12, .ishr, 1), (13, .iconst 1, 1), (14, .iand, 1), (15, .iconst 1, 1), (16, .if_icmp .ne 18, 3), (19, .aload_n 0, 1), (20, .getfield 22, 3), (23, .iload_n 2, 1), (24, .iaload, 1), (25, .iload_n 1, 1), (26, .iconst (-1), 1), (27, .ixor, 1), (28, .iand, 1), (29, .ifCond .eq 5, 3), (32, .iconst 0, 1), (33, .ireturn, 1), (34, .iinc 2 1, 3), (37, .goto (-35), 3), (40, .iconst 1, 1), (41, .ireturn, 1)]
def eCd21 : List (Nat × Instr × Nat) := [(0, .iload_n 1, 1), (1, .ifCond .eq 15, 3), (4, .aload_n 0, 1), (5, .getfield 10, 3), (8, .iload_n 1, 1), (9, .i2l, 1), (10, .invokevirtual 70, 3), (13, .ifCond .ne 5, 3), (16, .iconst (-1), 1), (17, .ireturn, 1), (18, .aload_n 0, 1), (19, .getfield 10, 3), (22, .invokevirtual 114, 3), (25, .ifCond .eq 6, 3), (28, .bipush (-3), 2), (30, .ireturn, 1), (31, .aload_n 0, 1), (32, .getfield 10, 3), (35, .iload_n 1, 1), (36, .invokevirtual 117, 3), (39, .aload_n 0, 1), (40, .getfield 32, 3), (43, .invokevirtual 82, 3), (46, .aload_n 0, 1), (47, .getfield 10, 3), (50, .getfield 121, 3), (53, .iconst 1, 1), (54, .isub, 1), (55, .ireturn, 1)]
def eCd22 : List (Nat × Instr × Nat) := [(0, .aload_n 0, 1), (1, .getfield 39, 3), (4, .iconst 4, 1), (5, .if_icmp .lt 7, 3), (8, .iconst 1, 1), (9, .goto 4, 3), (12, .iconst 0, 1), (13, .ireturn, 1)]
def eCd23 : List (Nat × Instr × Nat) := [(0, .aload_n 0, 1), (1, .getfield 25, 3), (4, .aload_n 0, 1), (5, .getfield 39, 3), (8, .iload_n 1, 1), (9, .iastore, 1), (10, .aload_n 0, 1), (11, .dup, 1), (12, .getfield 39, 3), (15, .iconst 1, 1), (16, .iadd, 1), (17, .putfield 39, 3), (20, .return_, 1)]
def eCd24 : List (Nat × Instr × Nat) := [(0, .iload_n 1, 1), (1, .ifCond .ne 39, 3), (4, .iload_n 2, 1), (5, .ifCond .lt 35, 3), (8, .iload_n 2, 1), (9, .sipush 999, 3), (12, .if_icmp .gt 28, 3), (15, .aload_n 0, 1), (16, .getfield 10, 3), (19, .getfield 124, 3), (22, .istore_n 3, 1), (23, .aload_n 0, 1), (24, .getfield 10, 3), (27, .iload_n 2, 1), (28, .putfield 124, 3), (31, .aload_n 0, 1), (32, .getfield 32, 3), (35, .invokevirtual 82, 3), (38, .iload_n 3, 1), (39, .ireturn, 1), (40, .iload_n 1, 1), (41, .iconst 1, 1), (42, .if_icmp .ne 40, 3), (45, .iload_n 2, 1), (46, .iconst 1, 1), (47, .if_icmp .lt 35, 3), (50, .iload_n 2, 1), (51, .sipush 999, 3), (54, .if_icmp .gt 28, 3), (57, .aload_n 0, 1), (58, .getfield 10, 3), (61, .getfield 127, 3), (64, .istore_n 3, 1), (65, .aload_n 0, 1), (66, .getfield 10, 3), (69, .iload_n 2, 1), (70, .putfield 127, 3), (73, .aload_n 0, 1), (74, .getfield 32, 3), (77, .invokevirtual 82, 3), (80, .iload_n 3, 1), (81, .ireturn, 1), (82, .iconst (-1), 1), (83, .ireturn, 1)]
def eCd25 : List (Nat × Instr × Nat) := [(0, .aload_n 0, 1), (1, .getfield 10, 3), (4, .iload_n 1, 1), (5, .i2l, 1), (6, .invokevirtual 70, 3), (9, .ifCond .ne 5, 3), (12, .iconst (-1), 1), (13, .ireturn, 1), (14, .aload_n 0, 1), (15, .getfield 10, 3), (18, .getfield 130, 3), (21, .istore_n 2, 1), (22, .aload_n 0, 1), (23, .getfield 10, 3), (26, .iload_n 1, 1), (27, .putfield 130, 3), (30, .aload_n 0, 1), (31, .getfield 32, 3), (34, .invokevirtual 82, 3), (37, .iload_n 2, 1), (38, .ireturn, 1)]
def eCd26 : List (Nat × Instr × Nat) := [(0, .iload_n 3, 1), (1, .iconst 1, 1), (2, .if_icmp .lt 17, 3), (5, .iload_n 3, 1), (6, .bipush 8, 2), (8, .if_icmp .gt 11, 3), (11, .lload_n 1, 1), (12, .iload_n 3, 1), (13, .invokestatic 133, 3), (16, .ifCond .ne 5, 3), (19, .iconst (-1), 1), (20, .ireturn, 1), (21, .aload_n 0, 1), (22, .getfield 25, 3), (25, .iload_n 3, 1), (26, .invokevirtual 137, 3), (29, .ifCond .ne 6, 3), (32, .bipush (-3), 2), (34, .ireturn, 1), (35, .aload_n 0, 1), (36, .getfield 25, 3), (39, .lload_n 1, 1), (40, .iload_n 3, 1), (41, .invokevirtual 140, 3), (44, .aload_n 0, 1), (45, .getfield 25, 3), (48, .getfield 144, 3), (51, .ireturn, 1)]
def eCd27 : List (Nat × Instr × Nat) := [(0, .iconst 0, 1), (1, .istore_n 3, 1), (2, .iload_n 3, 1), (3, .iload_n 2, 1), (4, .if_icmp .ge 41, 3), (7, .lload_n 0, 1), (8, .bipush 8, 2), (10, .iload_n 3, 1), (11, .imul, 1), (12, .lushr, 1), (13, .ldc2_w 13, 3), (16, .land, 1), (17, .lstore 4, 2), (19, .lload 4, 2), (21, .ldc2_w 15, 3), (24, .lcmp, 1), (25, .ifCond .lt 12, 3), (28, .lload 4, 2), (30, .ldc2_w 17, 3), (33, .lcmp, 1), (34, .ifCond .le 5, 3), (37, .iconst 0, 1), (38, .ireturn, 1), (39, .iinc 3 1, 3), (42, .goto (-40), 3), (45, .iconst 1, 1), (46, .ireturn, 1)]
def eCd28 : List (Nat × Instr × Nat) := [(0, .iload_n 1, 1), (1, .sipush 160, 3), (4, .aload_n 0, 1), (5, .getfield 19, 3), (8, .isub, 1), (9, .if_icmp .gt 7, 3), (12, .iconst 1, 1), (13, .goto 4, 3), (16, .iconst 0, 1), (17, .ireturn, 1)]
def eCd29 : List (Nat × Instr × Nat) := [(0, .iload_n 3, 1), (1, .iconst 1, 1), (2, .isub, 1), (3, .istore 4, 2), (5, .iload 4, 2), (7, .ifCond .lt 41, 3), (10, .aload_n 0, 1), (11, .getfield 9, 3), (14, .aload_n 0, 1), (15, .getfield 19, 3), (18, .lload_n 1, 1), (19, .bipush 8, 2), (21, .iload 4, 2), (23, .imul, 1), (24, .lushr, 1), (25, .ldc2_w 13, 3), (28, .land, 1), (29, .l2i, 1), (30, .i2c, 1), (31, .castore, 1), (32, .aload_n 0, 1), (33, .dup, 1), (34, .getfield 19, 3), (37, .iconst 1, 1), (38, .iadd, 1), (39, .putfield 19, 3), (42, .iinc 4 (-1), 3), (45, .goto (-40), 3), (48, .return_, 1)]
def eCd30 : List (Nat × Instr × Nat) := [(0, .aload_n 0, 1), (1, .getfield 19, 3), (4, .aload_n 0, 1), (5, .getfield 10, 3), (8, .invokevirtual 147, 3), (11, .aload_n 0, 1), (12, .getfield 19, 3), (15, .invokevirtual 151, 3), (18, .aload_n 0, 1), (19, .getfield 25, 3), (22, .aload_n 0, 1), (23, .getfield 19, 3), (26, .invokevirtual 154, 3), (29, .istore_n 1, 1), (30, .aload_n 0, 1), (31, .iload_n 1, 1), (32, .aload_n 0, 1), (33, .getfield 19, 3), (36, .getfield 85, 3), (39, .invokevirtual 158, 3), (42, .ireturn, 1)]
def eCd31 : List (Nat × Instr × Nat) := [(0, .aload_n 1, 1), (1, .getfield 9, 3), (4, .iconst 0, 1), (5, .aload_n 0, 1), (6, .getfield 9, 3), (9, .iconst 0, 1), (10, .bipush 8, 2), (12, .invokestatic 48, 3), (15, .aload_n 1, 1), (16, .getfield 13, 3), (19, .iconst 0, 1), (20, .aload_n 0, 1), (21, .getfield 13, 3), (24, .iconst 0, 1), (25, .bipush 8, 2), (27, .invokestatic 48, 3), (30, .aload_n 1, 1), (31, .getfield 16, 3), (34, .iconst 0, 1), (35, .aload_n 0, 1), (36, .getfield 16, 3), (39, .iconst 0, 1), (40, .bipush 8, 2), (42, .invokestatic 48, 3), (45, .aload_n 1, 1), (46, .getfield 19, 3), (49, .iconst 0, 1), (50, .aload_n 0, 1), (51, .getfield 19, 3), (54, .iconst 0, 1), (55, .bipush 8, 2), (57, .invokestatic 48, 3), (60, .aload_n 1, 1), (61, .getfield 22, 3), (64, .iconst 0, 1), (65, .aload_n 0, 1), (66, .getfield 22, 3), (69, .iconst 0, 1), (70, .bipush 8, 2), (72, .invokestatic 48, 3), (75, .aload_n 1, 1), (76, .getfield 25, 3), (79, .iconst 0, 1), (80, .aload_n 0, 1), (81, .getfield 25, 3), (84, .iconst 0, 1), (85, .iconst 4, 1), (86, .invokestatic 48, 3), (89, .aload_n 0, 1), (90, .aload_n 1, 1), (91, .getfield 32, 3), (94, .putfield 32, 3), (97, .aload_n 0, 1), (98, .aload_n 1, 1), (99, .getfield 39, 3), (102, .putfield 39, 3), (105, .aload_n 0, 1), (106, .aload_n 1, 1), (107, .getfield 42, 3), (110, .putfield 42, 3), (113, .aload_n 0, 1), (114, .aload_n 1, 1), (115, .getfield 45, 3), (118, .putfield 45, 3), (121, .aload_n 0, 1), (122, .aload_n 1, 1), (123, .getfield 54, 3), (126, .putfield 54, 3), (129, .aload_n 0, 1), (130, .aload_n 1, 1), (131, .getfield 28, 3), (134, .putfield 28, 3), (137, .return_, 1)]
def eCd32 : List (Nat × Instr × Nat) := [(0, .aload_n 0, 1), (1, .iconst 0, 1), (2, .putfield 32, 3), (5, .aload_n 0, 1), (6, .iconst 0, 1), (7, .putfield 39, 3), (10, .aload_n 0, 1), (11, .iconst 0, 1), (12, .putfield 42, 3), (15, .aload_n 0, 1), (16, .iconst 0, 1), (17, .putfield 45, 3), (20, .return_, 1)]
def eCd33 : List (Nat × Instr × Nat) := [(0, .aload_n 0, 1), (1, .iconst 0, 1), (2, .putfield 23, 3), (5, .iconst 1, 1), (6, .istore_n 2, 1), (7, .iload_n 2, 1), (8, .bipush 8, 2), (10, .if_icmp .gt 45, 3), (13, .aload_n 0, 1), (14, .aload_n 1, 1), (15, .invokevirtual 28, 3), (18, .ifCond .ne 5, 3), (21, .iconst 0, 1), (22, .ireturn, 1), (23, .aload_n 0, 1), (24, .invokevirtual 32, 3), (27, .ifCond .ne 5, 3), (30, .iconst 1, 1), (31, .ireturn, 1), (32, .iload_n 2, 1), (33, .bipush 8, 2), (35, .if_icmp .eq 12, 3), (38, .aload_n 0, 1), (39, .bipush 44, 2), (41, .invokevirtual 36, 3), (44, .ifCond .ne 5, 3), (47, .iconst 0, 1), (48, .ireturn, 1), (49, .iinc 2 1, 3), (52, .goto (-45), 3), (55, .iconst 0, 1), (56, .ireturn, 1)]
def eCd34 : List (Nat × Instr × Nat) := [(0, .ldc 51, 2), (2, .aload_n 0, 1), (3, .invokevirtual 32, 3), (6, .invokevirtual 53, 3), (9, .istore_n 2, 1), (10, .iload_n 2, 1), (11, .ifCond .ge 5, 3), (14, .iconst 0, 1), (15, .ireturn, 1), (16, .aload_n 0, 1), (17, .dup, 1), (18, .getfield 23, 3), (21, .iconst 1, 1), (22, .iadd, 1), (23, .putfield 23, 3), (26, .aload_n 0, 1), (27, .iconst 1, 1), (28, .bipush 99, 2), (30, .invokevirtual 58, 3), (33, .istore_n 3, 1), (34, .iload_n 3, 1), (35, .ifCond .ge 5, 3), (38, .iconst 0, 1), (39, .ireturn, 1), (40, .aload_n 0, 1), (41, .bipush 64, 2), (43, .invokevirtual 36, 3), (46, .ifCond .eq 13, 3), (49, .aload_n 0, 1), (50, .iconst 0, 1), (51, .bipush 99, 2), (53, .invokevirtual 58, 3), (56, .goto 4, 3), (59, .iconst 0, 1), (60, .istore 4, 2), (62, .iload 4, 2), (64, .ifCond .ge 5, 3), (67, .iconst 0, 1), (68, .ireturn, 1), (69, .aload_n 0, 1), (70, .bipush 111, 2), (72, .invokevirtual 36, 3), (75, .ifCond .eq 11, 3), (78, .aload_n 0, 1), (79, .iconst 4, 1), (80, .invokevirtual 62, 3), (83, .goto 4, 3), (86, .iconst 0, 1), (87, .istore 5, 2), (89, .iload 5, 2), (91, .ifCond .ge 5, 3), (94, .iconst 0, 1), (95, .ireturn, 1), (96, .aload_n 0, 1), (97, .bipush 47, 2), (99, .invokevirtual 36, 3), (102, .ifCond .eq 14, 3), (105, .aload_n 0, 1), (106, .aload_n 1, 1), (107, .getfield 40, 3), (110, .invokevirtual 43, 3), (113, .goto 4, 3), (116, .iconst 0, 1), (117, .istore 6, 2), (119, .iload 6, 2), (121, .ifCond .ge 5, 3), (124, .iconst 0, 1), (125, .ireturn, 1), (126, .aload_n 0, 1), (127, .invokevirtual 32, 3), (130, .bipush 42, 2), (132, .if_icmp .ne 7, 3), (135, .iconst 1, 1), (136, .goto 4, 3), (139, .iconst 0, 1), (140, .istore 7, 2), (142, .iload 7, 2), (144, .ifCond .eq 17, 3), (147, .iload 6, 2), (149, .aload_n 1, 1), (150, .getfield 65, 3), (153, .iconst (-1), 1), (154, .ixor, 1), (155, .iand, 1), (156, .ifCond .eq 5, 3), (159, .iconst 0, 1), (160, .ireturn, 1), (161, .iload 7, 2), (163, .ifCond .eq 28, 3), (166, .aload_n 0, 1), (167, .dup, 1), (168, .getfield 23, 3), (171, .iconst 1, 1), (172, .iadd, 1), (173, .putfield 23, 3), (176, .aload_n 1, 1), (177, .dup, 1), (178, .getfield 65, 3), (181, .iconst 1, 1), (182, .aload_n 1, 1), (183, .getfield 40, 3), (186, .ishl, 1), (187, .ior, 1), (188, .putfield 65, 3), (191, .aload_n 1, 1), (192, .iload_n 2, 1), (193, .iload_n 3, 1), (194, .iload 4, 2), (196, .iload 5, 2), (198, .iload 6, 2), (200, .invokevirtual 68, 3), (203, .iconst 1, 1), (204, .ireturn, 1)]
def eCd35 : List (Nat × Instr × Nat) := [(0, .aload_n 0, 1), (1, .getfield 23, 3), (4, .aload_n 0, 1), (5, .getfield 19, 3), (8, .if_icmp .ge 30, 3), (11, .aload_n 0, 1), (12, .getfield 9, 3), (15, .aload_n 0, 1), (16, .getfield 23, 3), (19, .caload, 1), (20, .bipush 32, 2), (22, .if_icmp .ne 16, 3), (25, .aload_n 0, 1), (26, .dup, 1), (27, .getfield 23, 3), (30, .iconst 1, 1), (31, .iadd, 1), (32, .putfield 23, 3), (35, .goto (-35), 3), (38, .aload_n 0, 1), (39, .getfield 23, 3), (42, .aload_n 0, 1), (43, .getfield 19, 3), (46, .if_icmp .ge 15, 3), (49, .aload_n 0, 1), (50, .getfield 9, 3), (53, .aload_n 0, 1), (54, .getfield 23, 3), (57, .caload, 1), (58, .goto 4, 3), (61, .iconst 0, 1), (62, .ireturn, 1)]
def eCd36 : List (Nat × Instr × Nat) := [(0, .iload_n 0, 1), (1, .iload_n 1, 1), (2, .if_icmp .lt 7, 3), (5, .iload_n 0, 1), (6, .goto 4, 3), (9, .iload_n 1, 1), (10, .ireturn, 1)]
def eCd37 : List (Nat × Instr × Nat) := [(0, .iload_n 0, 1), (1, .iload_n 1, 1), (2, .if_icmp .gt 7, 3), (5, .iload_n 0, 1), (6, .goto 4, 3), (9, .iload_n 1, 1), (10, .ireturn, 1)]
def eCd38 : List (Nat × Instr × Nat) := [(0, .aload_n 0, 1), (1, .invokevirtual 32, 3), (4, .pop, 1), (5, .aload_n 0, 1), (6, .getfield 23, 3), (9, .istore_n 3, 1), (10, .iconst 0, 1), (11, .istore 4, 2), (13, .aload_n 0, 1), (14, .getfield 23, 3), (17, .aload_n 0, 1), (18, .getfield 19, 3), (21, .if_icmp .ge 57, 3), (24, .aload_n 0, 1), (25, .getfield 9, 3), (28, .aload_n 0, 1), (29, .getfield 23, 3), (32, .caload, 1), (33, .invokestatic 72, 3), (36, .ifCond .eq 42, 3), (39, .iload_n 2, 1), (40, .iconst 1, 1), (41, .iadd, 1), (42, .iload 4, 2), (44, .bipush 10, 2), (46, .imul, 1), (47, .aload_n 0, 1), (48, .getfield 9, 3), (51, .aload_n 0, 1), (52, .getfield 23, 3), (55, .caload, 1), (56, .iadd, 1), (57, .bipush 48, 2), (59, .isub, 1), (60, .invokestatic 75, 3), (63, .istore 4, 2), (65, .aload_n 0, 1), (66, .dup, 1), (67, .getfield 23, 3), (70, .iconst 1, 1), (71, .iadd, 1), (72, .putfield 23, 3), (75, .goto (-62), 3), (78, .aload_n 0, 1), (79, .getfield 23, 3), (82, .iload_n 3, 1), (83, .if_icmp .eq 15, 3), (86, .iload 4, 2), (88, .iload_n 1, 1), (89, .if_icmp .lt 9, 3), (92, .iload 4, 2), (94, .iload_n 2, 1), (95, .if_icmp .le 10, 3), (98, .aload_n 0, 1), (99, .iload_n 3, 1), (100, .putfield 23, 3), (103, .iconst (-1), 1), (104, .ireturn, 1), (105, .iload 4, 2), (107, .ireturn, 1)]
def eCd39 : List (Nat × Instr × Nat) := [(0, .iload_n 0, 1), (1, .bipush 48, 2), (3, .if_icmp .lt 13, 3), (6, .iload_n 0, 1), (7, .bipush 57, 2), (9, .if_icmp .gt 7, 3), (12, .iconst 1, 1), (13, .goto 4, 3), (16, .iconst 0, 1), (17, .ireturn, 1)]
def eCd40 : List (Nat × Instr × Nat) := [(0, .aload_n 0, 1), (1, .invokevirtual 32, 3), (4, .iload_n 1, 1), (5, .if_icmp .eq 5, 3), (8, .iconst 0, 1), (9, .ireturn, 1), (10, .aload_n 0, 1), (11, .dup, 1), (12, .getfield 23, 3), (15, .iconst 1, 1), (16, .iadd, 1), (17, .putfield 23, 3), (20, .iconst 1, 1), (21, .ireturn, 1)]
def eCd41 : List (Nat × Instr × Nat) := [(0, .aload_n 0, 1), (1, .invokevirtual 32, 3), (4, .istore_n 2, 1), (5, .iload_n 2, 1), (6, .invokestatic 72, 3), (9, .ifCond .eq 11, 3), (12, .iload_n 2, 1), (13, .bipush 48, 2), (15, .isub, 1), (16, .iload_n 1, 1), (17, .if_icmp .lt 5, 3), (20, .iconst (-1), 1), (21, .ireturn, 1), (22, .aload_n 0, 1), (23, .dup, 1), (24, .getfield 23, 3), (27, .iconst 1, 1), (28, .iadd, 1), (29, .putfield 23, 3), (32, .iload_n 2, 1), (33, .bipush 48, 2), (35, .isub, 1), (36, .ireturn, 1)]
def eCd42 : List (Nat × Instr × Nat) := [(0, .iconst 0, 1), (1, .istore_n 2, 1), (2, .iconst 0, 1), (3, .istore_n 3, 1), (4, .iload_n 3, 1), (5, .sipush 160, 3), (8, .if_icmp .ge 66, 3), (11, .iload_n 2, 1), (12, .ifCond .eq 13, 3), (15, .aload_n 0, 1), (16, .invokevirtual 32, 3), (19, .invokestatic 72, 3), (22, .ifCond .eq 52, 3), (25, .aload_n 0, 1), (26, .iload_n 1, 1), (27, .invokevirtual 62, 3), (30, .istore 4, 2), (32, .iload 4, 2), (34, .ifCond .ge 5, 3), (37, .iconst (-1), 1), (38, .ireturn, 1), (39, .iload_n 2, 1), (40, .iload 4, 2), (42, .ishr, 1), (43, .iconst 1, 1), (44, .iand, 1), (45, .iconst 1, 1), (46, .if_icmp .ne 15, 3), (49, .aload_n 0, 1), (50, .dup, 1), (51, .getfield 23, 3), (54, .iconst 1, 1), (55, .isub, 1), (56, .putfield 23, 3), (59, .iconst (-1), 1), (60, .ireturn, 1), (61, .iload_n 2, 1), (62, .iconst 1, 1), (63, .iload 4, 2), (65, .ishl, 1), (66, .ior, 1), (67, .istore_n 2, 1), (68, .iinc 3 1, 3), (71, .goto (-67), 3), (74, .iload_n 2, 1), (75, .ireturn, 1)]
def eCd43 : List (Nat × Instr × Nat) := [(0, .aload_n 0, 1), (1, .getfield 25, 3), (4, .getfield 165, 3), (7, .istore_n 3, 1), (8, .aload_n 0, 1), (9, .getfield 25, 3), (12, .invokevirtual 168, 3), (15, .iload_n 1, 1), (16, .ifCond .ne 8, 3), (19, .bipush (-20), 2), (21, .iload_n 3, 1), (22, .isub, 1), (23, .ireturn, 1), (24, .aload_n 0, 1), (25, .getfield 10, 3), (28, .aload_n 0, 1), (29, .getfield 19, 3), (32, .invokevirtual 147, 3), (35, .aload_n 0, 1), (36, .getfield 32, 3), (39, .invokevirtual 82, 3), (42, .iload_n 2, 1), (43, .ireturn, 1)]
def eCd44 : List (Nat × Instr × Nat) := [(0, .aload_n 0, 1), (1, .iconst 0, 1), (2, .putfield 19, 3), (5, .aload_n 0, 1), (6, .iconst 0, 1), (7, .putfield 23, 3), (10, .return_, 1)]
def eCd45 : List (Nat × Instr × Nat) := [(0, .aload_n 0, 1), (1, .getfield 19, 3), (4, .aload_n 0, 1), (5, .getfield 10, 3), (8, .invokevirtual 147, 3), (11, .aload_n 0, 1), (12, .getfield 19, 3), (15, .iconst 0, 1), (16, .putfield 121, 3), (19, .aload_n 0, 1), (20, .getfield 25, 3), (23, .aload_n 0, 1), (24, .getfield 19, 3), (27, .invokevirtual 162, 3), (30, .istore_n 1, 1), (31, .aload_n 0, 1), (32, .iload_n 1, 1), (33, .aload_n 0, 1), (34, .getfield 19, 3), (37, .getfield 121, 3), (40, .invokevirtual 158, 3), (43, .ireturn, 1)]
def eCd46 : List (Nat × Instr × Nat) := [(0, .aload_n 0, 1), (1, .iconst 0, 1), (2, .putfield 23, 3), (5, .iconst 1, 1), (6, .istore_n 2, 1), (7, .iload_n 2, 1), (8, .iconst 4, 1), (9, .if_icmp .gt 54, 3), (12, .aload_n 0, 1), (13, .aload_n 1, 1), (14, .getfield 40, 3), (17, .invokevirtual 43, 3), (20, .istore_n 3, 1), (21, .iload_n 3, 1), (22, .ifCond .ge 5, 3), (25, .iconst 0, 1), (26, .ireturn, 1), (27, .aload_n 1, 1), (28, .iload_n 3, 1), (29, .invokevirtual 47, 3), (32, .aload_n 0, 1), (33, .invokevirtual 32, 3), (36, .ifCond .ne 5, 3), (39, .iconst 1, 1), (40, .ireturn, 1), (41, .iload_n 2, 1), (42, .iconst 4, 1), (43, .if_icmp .eq 12, 3), (46, .aload_n 0, 1), (47, .bipush 44, 2), (49, .invokevirtual 36, 3), (52, .ifCond .ne 5, 3), (55, .iconst 0, 1), (56, .ireturn, 1), (57, .iinc 2 1, 3), (60, .goto (-53), 3), (63, .iconst 0, 1), (64, .ireturn, 1)]
def eCd47 : List (Nat × Instr × Nat) := [(0, .iload_n 1, 1), (1, .tableswitch 101 0 5 #[39, 47, 55, 63, 71, 86], 39), (40, .aload_n 0, 1), (41, .getfield 10, 3), (44, .getfield 85, 3), (47, .ireturn, 1), (48, .aload_n 0, 1), (49, .getfield 10, 3), (52, .getfield 108, 3), (55, .ireturn, 1), (56, .aload_n 0, 1), (57, .getfield 10, 3), (60, .getfield 124, 3), (63, .ireturn, 1), (64, .aload_n 0, 1), (65, .getfield 10, 3), (68, .getfield 121, 3), (71, .ireturn, 1), (72, .aload_n 0, 1), (73, .getfield 10, 3), (76, .aload_n 0, 1), (77, .getfield 10, 3), (80, .getfield 108, 3), (83, .invokevirtual 171, 3), (86, .ireturn, 1), (87, .aload_n 0, 1), (88, .getfield 10, 3), (91, .aload_n 0, 1), (92, .getfield 10, 3), (95, .getfield 108, 3), (98, .invokevirtual 175, 3), (101, .ireturn, 1), (102, .iconst (-1), 1), (103, .ireturn, 1)]
def eCd48 : List (Nat × Instr × Nat) := [(0, .iconst 0, 1), (1, .istore_n 2, 1), (2, .iconst 0, 1), (3, .istore_n 3, 1), (4, .iload_n 3, 1), (5, .aload_n 0, 1), (6, .getfield 32, 3), (9, .if_icmp .ge 27, 3), (12, .iload_n 1, 1), (13, .iload_n 3, 1), (14, .ishr, 1), (15, .iconst 1, 1), (16, .iand, 1), (17, .iconst 1, 1), (18, .if_icmp .ne 12, 3), (21, .iload_n 2, 1), (22, .aload_n 0, 1), (23, .getfield 13, 3), (26, .iload_n 3, 1), (27, .iaload, 1), (28, .iadd, 1), (29, .istore_n 2, 1), (30, .iinc 3 1, 3), (33, .goto (-29), 3), (36, .iload_n 2, 1), (37, .ireturn, 1)]
def eCd49 : List (Nat × Instr × Nat) := [(0, .iconst 0, 1), (1, .istore_n 2, 1), (2, .iconst 0, 1), (3, .istore_n 3, 1), (4, .iload_n 3, 1), (5, .aload_n 0, 1), (6, .getfield 39, 3), (9, .if_icmp .ge 26, 3), (12, .aload_n 0, 1), (13, .getfield 25, 3), (16, .iload_n 3, 1), (17, .iaload, 1), (18, .iload_n 1, 1), (19, .iand, 1), (20, .ifCond .eq 9, 3), (23, .iload_n 2, 1), (24, .iconst 1, 1), (25, .iload_n 3, 1), (26, .ishl, 1), (27, .ior, 1), (28, .istore_n 2, 1), (29, .iinc 3 1, 3), (32, .goto (-28), 3), (35, .iload_n 2, 1), (36, .ireturn, 1)]
def eCd50 : List (Nat × Instr × Nat) := [(0, .aload_n 0, 1), (1, .getfield 10, 3), (4, .iload_n 1, 1), (5, .i2l, 1), (6, .iload_n 2, 1), (7, .i2l, 1), (8, .invokevirtual 178, 3), (11, .ifCond .ne 5, 3), (14, .iconst (-1), 1), (15, .ireturn, 1), (16, .aload_n 0, 1), (17, .getfield 10, 3), (20, .iload_n 1, 1), (21, .iload_n 2, 1), (22, .invokevirtual 182, 3), (25, .ifCond .eq 7, 3), (28, .iconst 1, 1), (29, .goto 4, 3), (32, .iconst 0, 1), (33, .ireturn, 1)]
def eCd51 : List (Nat × Instr × Nat) := [(0, .aload_n 0, 1), (1, .lload_n 1, 1), (2, .invokevirtual 67, 3), (5, .ifCond .eq 41, 3), (8, .aload_n 0, 1), (9, .lload_n 3, 1), (10, .invokevirtual 67, 3), (13, .ifCond .eq 33, 3), (16, .lload_n 1, 1), (17, .aload_n 0, 1), (18, .getfield 42, 3), (21, .iconst (-1), 1), (22, .ixor, 1), (23, .i2l, 1), (24, .land, 1), (25, .lconst 0, 1), (26, .lcmp, 1), (27, .ifCond .ne 19, 3), (30, .lload_n 3, 1), (31, .aload_n 0, 1), (32, .getfield 42, 3), (35, .i2l, 1), (36, .land, 1), (37, .lconst 0, 1), (38, .lcmp, 1), (39, .ifCond .ne 7, 3), (42, .iconst 1, 1), (43, .goto 4, 3), (46, .iconst 0, 1), (47, .ireturn, 1)]
def eCd52 : List (Nat × Instr × Nat) := [(0, .aload_n 0, 1), (1, .iload_n 1, 1), (2, .iload_n 2, 1), (3, .invokevirtual 71, 3), (6, .ifCond .lt 53, 3), (9, .aload_n 0, 1), (10, .iload_n 1, 1), (11, .iload_n 2, 1), (12, .ior, 1), (13, .invokevirtual 75, 3), (16, .aload_n 0, 1), (17, .getfield 28, 3), (20, .if_icmp .gt 39, 3), (23, .aload_n 0, 1), (24, .aload_n 0, 1), (25, .getfield 42, 3), (28, .iload_n 1, 1), (29, .iconst (-1), 1), (30, .ixor, 1), (31, .iand, 1), (32, .iload_n 2, 1), (33, .ior, 1), (34, .invokevirtual 78, 3), (37, .ifCond .eq 22, 3), (40, .aload_n 0, 1), (41, .aload_n 0, 1), (42, .getfield 42, 3), (45, .iload_n 1, 1), (46, .iconst (-1), 1), (47, .ixor, 1), (48, .iand, 1), (49, .invokevirtual 82, 3), (52, .ifCond .eq 7, 3), (55, .iconst 1, 1), (56, .goto 4, 3), (59, .iconst 0, 1), (60, .ireturn, 1)]
def eCd53 : List (Nat × Instr × Nat) := [(0, .aload_n 0, 1), (1, .getfield 54, 3), (4, .istore_n 3, 1), (5, .iconst 0, 1), (6, .istore 4, 2), (8, .iload 4, 2), (10, .aload_n 0, 1), (11, .getfield 32, 3), (14, .if_icmp .ge 50, 3), (17, .iload_n 1, 1), (18, .iload 4, 2), (20, .ishr, 1), (21, .iconst 1, 1), (22, .iand, 1), (23, .iconst 1, 1), (24, .if_icmp .ne 15, 3), (27, .iload_n 3, 1), (28, .aload_n 0, 1), (29, .iload 4, 2), (31, .invokevirtual 57, 3), (34, .iadd, 1), (35, .istore_n 3, 1), (36, .goto 22, 3), (39, .iload_n 2, 1), (40, .iload 4, 2), (42, .ishr, 1), (43, .iconst 1, 1), (44, .iand, 1), (45, .iconst 1, 1), (46, .if_icmp .ne 12, 3), (49, .iload_n 3, 1), (50, .aload_n 0, 1), (51, .iload 4, 2), (53, .invokevirtual 61, 3), (56, .iadd, 1), (57, .istore_n 3, 1), (58, .iinc 4 1, 3), (61, .goto (-53), 3), (64, .iload_n 3, 1), (65, .ireturn, 1)]
def eCd54 : List (Nat × Instr × Nat) := [(0, .aload_n 0, 1), (1, .getfield 9, 3), (4, .iload_n 1, 1), (5, .iaload, 1), (6, .tableswitch 52 1 3 #[26, 35, 43], 26), (32, .aload_n 0, 1), (33, .getfield 13, 3), (36, .iload_n 1, 1), (37, .iaload, 1), (38, .iconst 1, 1), (39, .isub, 1), (40, .ireturn, 1), (41, .aload_n 0, 1), (42, .getfield 13, 3), (45, .iload_n 1, 1), (46, .iaload, 1), (47, .ineg, 1), (48, .ireturn, 1), (49, .aload_n 0, 1), (50, .getfield 13, 3), (53, .iload_n 1, 1), (54, .iaload, 1), (55, .iconst 2, 1), (56, .idiv, 1), (57, .ireturn, 1), (58, .aload_n 0, 1), (59, .getfield 13, 3), (62, .iload_n 1, 1), (63, .iaload, 1), (64, .ireturn, 1)]
def eCd55 : List (Nat × Instr × Nat) := [(0, .aload_n 0, 1), (1, .getfield 9, 3), (4, .iload_n 1, 1), (5, .iaload, 1), (6, .iconst 2, 1), (7, .if_icmp .ne 12, 3), (10, .aload_n 0, 1), (11, .getfield 13, 3), (14, .iload_n 1, 1), (15, .iaload, 1), (16, .goto 10, 3), (19, .aload_n 0, 1), (20, .getfield 13, 3), (23, .iload_n 1, 1), (24, .iaload, 1), (25, .ineg, 1), (26, .ireturn, 1)]
def eCd56 : List (Nat × Instr × Nat) := [(0, .aload_n 0, 1), (1, .iload_n 1, 1), (2, .invokevirtual 64, 3), (5, .iconst 1, 1), (6, .aload_n 0, 1), (7, .getfield 39, 3), (10, .ishl, 1), (11, .iconst 1, 1), (12, .isub, 1), (13, .if_icmp .ne 7, 3), (16, .iconst 1, 1), (17, .goto 4, 3), (20, .iconst 0, 1), (21, .ireturn, 1)]
def eCd57 : List (Nat × Instr × Nat) := [(0, .aload_n 0, 1), (1, .getfield 10, 3), (4, .iload_n 1, 1), (5, .i2l, 1), (6, .iload_n 2, 1), (7, .i2l, 1), (8, .invokevirtual 178, 3), (11, .ifCond .ne 5, 3), (14, .iconst (-1), 1), (15, .ireturn, 1), (16, .aload_n 0, 1), (17, .getfield 10, 3), (20, .iload_n 1, 1), (21, .iload_n 2, 1), (22, .invokevirtual 182, 3), (25, .ifCond .ne 6, 3), (28, .bipush (-2), 2), (30, .ireturn, 1), (31, .aload_n 0, 1), (32, .getfield 10, 3), (35, .iload_n 1, 1), (36, .iload_n 2, 1), (37, .invokevirtual 186, 3), (40, .aload_n 0, 1), (41, .getfield 32, 3), (44, .invokevirtual 82, 3), (47, .aload_n 0, 1), (48, .getfield 10, 3), (51, .getfield 124, 3), (54, .ireturn, 1)]
def eCd58 : List (Nat × Instr × Nat) := [(0, .aload_n 0, 1), (1, .sipush 999, 3), (4, .aload_n 0, 1), (5, .iload_n 1, 1), (6, .iload_n 2, 1), (7, .invokevirtual 71, 3), (10, .invokestatic 85, 3), (13, .putfield 54, 3), (16, .aload_n 0, 1), (17, .aload_n 0, 1), (18, .getfield 42, 3), (21, .iload_n 1, 1), (22, .iconst (-1), 1), (23, .ixor, 1), (24, .iand, 1), (25, .iload_n 2, 1), (26, .ior, 1), (27, .putfield 42, 3), (30, .return_, 1)]
def eCd59 : List (Nat × Instr × Nat) := [(0, .iload_n 1, 1), (1, .iconst (-1), 1), (2, .if_icmp .lt 10, 3), (5, .iload_n 1, 1), (6, .sipush 255, 3), (9, .if_icmp .le 5, 3), (12, .iconst (-1), 1), (13, .ireturn, 1), (14, .aload_n 0, 1), (15, .getfield 32, 3), (18, .aload_n 0, 1), (19, .getfield 10, 3), (22, .invokevirtual 190, 3), (25, .aload_n 0, 1), (26, .getfield 32, 3), (29, .getfield 193, 3), (32, .ifCond .eq 14, 3), (35, .iload_n 1, 1), (36, .aload_n 0, 1), (37, .getfield 32, 3), (40, .getfield 197, 3), (43, .if_icmp .lt 6, 3), (46, .bipush (-4), 2), (48, .ireturn, 1), (49, .iload_n 1, 1), (50, .iconst (-1), 1), (51, .if_icmp .ne 13, 3), (54, .aload_n 0, 1), (55, .getfield 32, 3), (58, .getfield 197, 3), (61, .goto 12, 3), (64, .aload_n 0, 1), (65, .getfield 32, 3), (68, .getfield 200, 3), (71, .iload_n 1, 1), (72, .iaload, 1), (73, .ireturn, 1)]
def eCd60 : List (Nat × Instr × Nat) := [(0, .aload_n 0, 1), (1, .getfield 43, 3), (4, .ifCond .eq 4, 3), (7, .return_, 1), (8, .aload_n 0, 1), (9, .aload_n 0, 1), (10, .aload_n 1, 1), (11, .aload_n 1, 1), (12, .invokevirtual 49, 3), (15, .invokevirtual 53, 3), (18, .putfield 57, 3), (21, .aload_n 0, 1), (22, .aload_n 0, 1), (23, .getfield 33, 3), (26, .aload_n 0, 1), (27, .getfield 60, 3), (30, .sipush 256, 3), (33, .imul, 1), (34, .aload_n 1, 1), (35, .getfield 64, 3), (38, .iadd, 1), (39, .iaload, 1), (40, .putfield 67, 3), (43, .aload_n 0, 1), (44, .aload_n 0, 1), (45, .getfield 57, 3), (48, .ifCond .eq 10, 3), (51, .aload_n 0, 1), (52, .getfield 60, 3), (55, .goto 4, 3), (58, .iconst 0, 1), (59, .putfield 70, 3), (62, .aload_n 0, 1), (63, .getfield 57, 3), (66, .ifCond .eq 8, 3), (69, .aload_n 0, 1), (70, .aload_n 1, 1), (71, .invokevirtual 73, 3), (74, .aload_n 0, 1), (75, .iconst 1, 1), (76, .putfield 43, 3), (79, .return_, 1)]
def eCd61 : List (Nat × Instr × Nat) := [(0, .aload_n 0, 1), (1, .aload_n 1, 1), (2, .invokevirtual 110, 3), (5, .aload_n 0, 1), (6, .aload_n 1, 1), (7, .iload_n 2, 1), (8, .invokevirtual 113, 3), (11, .aload_n 0, 1), (12, .iconst 0, 1), (13, .putfield 60, 3), (16, .aload_n 0, 1), (17, .getfield 33, 3), (20, .iconst 0, 1), (21, .sipush 256, 3), (24, .sipush 1000, 3), (27, .invokestatic 117, 3), (30, .aload_n 0, 1), (31, .getfield 33, 3), (34, .aload_n 1, 1), (35, .getfield 123, 3), (38, .iconst 0, 1), (39, .iastore, 1), (40, .aload_n 0, 1), (41, .getfield 23, 3), (44, .aload_n 1, 1), (45, .getfield 123, 3), (48, .baload, 1), (49, .ifCond .eq 23, 3), (52, .aload_n 1, 1), (53, .getfield 64, 3), (56, .aload_n 1, 1), (57, .getfield 123, 3), (60, .ixor, 1), (61, .iload_n 2, 1), (62, .iconst (-1), 1), (63, .ixor, 1), (64, .iand, 1), (65, .ifCond .ne 7, 3), (68, .iconst 1, 1), (69, .goto 4, 3), (72, .iconst 0, 1), (73, .istore_n 3, 1), (74, .iconst 0, 1), (75, .istore 4, 2), (77, .iload 4, 2), (79, .sipush 255, 3), (82, .if_icmp .ge 45, 3), (85, .iload_n 3, 1), (86, .ifCond .eq 41, 3), (89, .aload_n 0, 1), (90, .getfield 33, 3), (93, .iload 4, 2), (95, .sipush 256, 3), (98, .imul, 1), (99, .aload_n 1, 1), (100, .getfield 64, 3), (103, .iadd, 1), (104, .iaload, 1), (105, .aload_n 1, 1), (106, .getfield 126, 3), (109, .if_icmp .le 18, 3), (112, .aload_n 0, 1), (113, .aload_n 1, 1), (114, .invokevirtual 49, 3), (117, .invokevirtual 129, 3), (120, .istore_n 3, 1), (121, .iinc 4 1, 3), (124, .goto (-47), 3), (127, .aload_n 0, 1), (128, .getfield 33, 3), (131, .aload_n 0, 1), (132, .getfield 60, 3), (135, .sipush 256, 3), (138, .imul, 1), (139, .aload_n 1, 1), (140, .getfield 64, 3), (143, .iadd, 1), (144, .iaload, 1), (145, .aload_n 1, 1), (146, .getfield 126, 3), (149, .if_icmp .gt 7, 3), (152, .iconst 1, 1), (153, .goto 4, 3), (156, .iconst 0, 1), (157, .ireturn, 1)]
def eCd62 : List (Nat × Instr × Nat) := [(0, .aload_n 0, 1), (1, .getfield 39, 3), (4, .ifCond .eq 4, 3), (7, .return_, 1), (8, .iconst 0, 1), (9, .istore_n 2, 1), (10, .iload_n 2, 1), (11, .aload_n 1, 1), (12, .invokevirtual 49, 3), (15, .if_icmp .gt 37, 3), (18, .aload_n 0, 1), (19, .aload_n 1, 1), (20, .iload_n 2, 1), (21, .invokevirtual 133, 3), (24, .aload_n 0, 1), (25, .getfield 23, 3), (28, .iload_n 2, 1), (29, .aload_n 1, 1), (30, .iload_n 2, 1), (31, .invokevirtual 136, 3), (34, .bastore, 1), (35, .aload_n 0, 1), (36, .getfield 27, 3), (39, .iload_n 2, 1), (40, .aload_n 1, 1), (41, .iload_n 2, 1), (42, .invokevirtual 139, 3), (45, .bastore, 1), (46, .iinc 2 1, 3), (49, .goto (-39), 3), (52, .aload_n 0, 1), (53, .iconst 1, 1), (54, .putfield 39, 3), (57, .return_, 1)]
def eCd63 : List (Nat × Instr × Nat) := [(0, .aload_n 0, 1), (1, .getfield 13, 3), (4, .iload_n 2, 1), (5, .iconst 0, 1), (6, .iastore, 1), (7, .aload_n 0, 1), (8, .getfield 17, 3), (11, .iload_n 2, 1), (12, .iconst 0, 1), (13, .iastore, 1), (14, .aload_n 0, 1), (15, .getfield 20, 3), (18, .iload_n 2, 1), (19, .iconst 0, 1), (20, .iastore, 1), (21, .iconst 0, 1), (22, .istore_n 3, 1), (23, .iload_n 3, 1), (24, .aload_n 1, 1), (25, .getfield 104, 3), (28, .if_icmp .ge 61, 3), (31, .iload_n 2, 1), (32, .iload_n 3, 1), (33, .ishr, 1), (34, .iconst 1, 1), (35, .iand, 1), (36, .iconst 1, 1), (37, .if_icmp .ne 46, 3), (40, .aload_n 0, 1), (41, .getfield 13, 3), (44, .iload_n 2, 1), (45, .dup2, 1), (46, .iaload, 1), (47, .aload_n 1, 1), (48, .getfield 142, 3), (51, .iload_n 3, 1), (52, .iaload, 1), (53, .iadd, 1), (54, .iastore, 1), (55, .aload_n 0, 1), (56, .getfield 17, 3), (59, .iload_n 2, 1), (60, .dup2, 1), (61, .iaload, 1), (62, .aload_n 1, 1), (63, .iload_n 3, 1), (64, .invokevirtual 143, 3), (67, .iadd, 1), (68, .iastore, 1), (69, .aload_n 0, 1), (70, .getfield 20, 3), (73, .iload_n 2, 1), (74, .dup2, 1), (75, .iaload, 1), (76, .aload_n 1, 1), (77, .iload_n 3, 1), (78, .invokevirtual 145, 3), (81, .iadd, 1), (82, .iastore, 1), (83, .iinc 3 1, 3), (86, .goto (-63), 3), (89, .return_, 1)]
def eCd64 : List (Nat × Instr × Nat) := [(0, .aload_n 0, 1), (1, .iconst 0, 1), (2, .putfield 147, 3), (5, .iconst 1, 1), (6, .istore_n 3, 1), (7, .iload_n 3, 1), (8, .aload_n 1, 1), (9, .invokevirtual 49, 3), (12, .if_icmp .gt 50, 3), (15, .iload_n 3, 1), (16, .iload_n 2, 1), (17, .iconst (-1), 1), (18, .ixor, 1), (19, .iand, 1), (20, .ifCond .ne 36, 3), (23, .aload_n 0, 1), (24, .getfield 13, 3), (27, .iload_n 3, 1), (28, .iaload, 1), (29, .aload_n 1, 1), (30, .getfield 150, 3), (33, .if_icmp .gt 23, 3), (36, .aload_n 0, 1), (37, .getfield 30, 3), (40, .aload_n 0, 1), (41, .getfield 147, 3), (44, .iload_n 3, 1), (45, .iastore, 1), (46, .aload_n 0, 1), (47, .dup, 1), (48, .getfield 147, 3), (51, .iconst 1, 1), (52, .iadd, 1), (53, .putfield 147, 3), (56, .iinc 3 1, 3), (59, .goto (-52), 3), (62, .return_, 1)]
def eCd65 : List (Nat × Instr × Nat) := [(0, .aload_n 0, 1), (1, .arraylength, 1), (2, .iload_n 1, 1), (3, .iload_n 2, 1), (4, .invokestatic 13, 3), (7, .iload_n 1, 1), (8, .istore 4, 2), (10, .iload 4, 2), (12, .iload_n 2, 1), (13, .if_icmp .ge 14, 3), (16, .aload_n 0, 1), (17, .iload 4, 2), (19, .iload_n 3, 1), (20, .iastore, 1), (21, .iinc 4 1, 3), (24, .goto (-14), 3), (27, .return_, 1)]
def eCd66 : List (Nat × Instr × Nat) := [(0, .iload_n 1, 1), (1, .iload_n 2, 1), (2, .if_icmp .le 44, 3), (5, .new 43, 3), (8, .dup, 1), (9, .new 45, 3), (12, .dup, 1), (13, .invokespecial 47, 3), (16, .ldc 48, 2), (18, .invokevirtual 50, 3), (21, .iload_n 1, 1), (22, .invokevirtual 54, 3), (25, .ldc 57, 2), (27, .invokevirtual 50, 3), (30, .iload_n 2, 1), (31, .invokevirtual 54, 3), (34, .ldc 59, 2), (36, .invokevirtual 50, 3), (39, .invokevirtual 61, 3), (42, .invokespecial 65, 3), (45, .athrow, 1), (46, .iload_n 1, 1), (47, .ifCond .ge 12, 3), (50, .new 68, 3), (53, .dup, 1), (54, .iload_n 1, 1), (55, .invokespecial 70, 3), (58, .athrow, 1), (59, .iload_n 2, 1), (60, .iload_n 0, 1), (61, .if_icmp .le 12, 3), (64, .new 68, 3), (67, .dup, 1), (68, .iload_n 2, 1), (69, .invokespecial 70, 3), (72, .athrow, 1), (73, .return_, 1)]
def eCd67 : List (Nat × Instr × Nat) := [(0, .aload_n 0, 1), (1, .getfield 60, 3), (4, .sipush 256, 3), (7, .imul, 1), (8, .istore_n 2, 1), (9, .iload_n 2, 1), (10, .sipush 256, 3), (13, .iadd, 1), (14, .istore_n 3, 1), (15, .iload_n 3, 1), (16, .sipush 256, 3), (19, .iadd, 1), (20, .aload_n 0, 1), (21, .getfield 33, 3), (24, .arraylength, 1), (25, .if_icmp .le 21, 3), (28, .aload_n 0, 1), (29, .aload_n 0, 1), (30, .getfield 33, 3), (33, .iconst 2, 1), (34, .aload_n 0, 1), (35, .getfield 33, 3), (38, .arraylength, 1), (39, .imul, 1), (40, .invokestatic 153, 3), (43, .putfield 33, 3), (46, .aload_n 0, 1), (47, .getfield 33, 3), (50, .iload_n 2, 1), (51, .aload_n 0, 1), (52, .getfield 33, 3), (55, .iload_n 3, 1), (56, .sipush 256, 3), (59, .invokestatic 157, 3), (62, .iconst 0, 1), (63, .istore 4, 2), (65, .iconst 0, 1), (66, .istore 5, 2), (68, .iload 5, 2), (70, .iload_n 1, 1), (71, .if_icmp .gt 73, 3), (74, .aload_n 0, 1), (75, .getfield 60, 3), (78, .ifCond .ne 9, 3), (81, .sipush 1000, 3), (84, .goto 16, 3), (87, .aload_n 0, 1), (88, .getfield 33, 3), (91, .iload_n 2, 1), (92, .sipush 256, 3), (95, .isub, 1), (96, .iload 5, 2), (98, .iadd, 1), (99, .iaload, 1), (100, .istore 6, 2), (102, .aload_n 0, 1), (103, .getfield 33, 3), (106, .iload_n 2, 1), (107, .iload 5, 2), (109, .iadd, 1), (110, .iaload, 1), (111, .iload 6, 2), (113, .if_icmp .ge 25, 3), (116, .aload_n 0, 1), (117, .iload 5, 2), (119, .aload_n 0, 1), (120, .getfield 33, 3), (123, .iload_n 2, 1), (124, .iload 5, 2), (126, .iadd, 1), (127, .iaload, 1), (128, .iload_n 3, 1), (129, .invokevirtual 163, 3), (132, .ifCond .eq 6, 3), (135, .iconst 1, 1), (136, .istore 4, 2), (138, .iinc 5 1, 3), (141, .goto (-73), 3), (144, .aload_n 0, 1), (145, .dup, 1), (146, .getfield 60, 3), (149, .iconst 1, 1), (150, .iadd, 1), (151, .putfield 60, 3), (154, .iload 4, 2), (156, .ireturn, 1)]
def eCd68 : List (Nat × Instr × Nat) := [(0, .iload_n 1, 1), (1, .aload_n 0, 1), (2, .arraylength, 1), (3, .if_icmp .ne 11, 3), (6, .aload_n 0, 1), (7, .invokevirtual 316, 3), (10, .checkcast 317, 3), (13, .areturn, 1), (14, .iload_n 1, 1), (15, .newarray .int, 2), (17, .astore_n 2, 1), (18, .aload_n 0, 1), (19, .iconst 0, 1), (20, .aload_n 2, 1), (21, .iconst 0, 1), (22, .aload_n 0, 1), (23, .arraylength, 1), (24, .iload_n 1, 1), (25, .invokestatic 304, 3), (28, .invokestatic 150, 3), (31, .aload_n 2, 1), (32, .areturn, 1)]
def eCd69 : List (Nat × Instr × Nat) := [(0, .iconst 0, 1), (1, .istore 4, 2), (3, .iconst 0, 1), (4, .istore 5, 2), (6, .iload 5, 2), (8, .aload_n 0, 1), (9, .getfield 147, 3), (12, .if_icmp .ge 85, 3), (15, .iload_n 1, 1), (16, .aload_n 0, 1), (17, .getfield 30, 3), (20, .iload 5, 2), (22, .iaload, 1), (23, .ixor, 1), (24, .istore 6, 2), (26, .aload_n 0, 1), (27, .getfield 23, 3), (30, .iload 6, 2), (32, .baload, 1), (33, .ifCond .eq 58, 3), (36, .aload_n 0, 1), (37, .getfield 27, 3), (40, .iload 6, 2), (42, .iload_n 1, 1), (43, .iand, 1), (44, .baload, 1), (45, .ifCond .eq 46, 3), (48, .iconst 0, 1), (49, .iload_n 2, 1), (50, .aload_n 0, 1), (51, .iload 6, 2), (53, .iload_n 1, 1), (54, .invokevirtual 167, 3), (57, .isub, 1), (58, .invokestatic 171, 3), (61, .istore 7, 2), (63, .iload 7, 2), (65, .aload_n 0, 1), (66, .getfield 33, 3), (69, .iload_n 3, 1), (70, .iload 6, 2), (72, .iadd, 1), (73, .iaload, 1), (74, .if_icmp .ge 17, 3), (77, .aload_n 0, 1), (78, .getfield 33, 3), (81, .iload_n 3, 1), (82, .iload 6, 2), (84, .iadd, 1), (85, .iload 7, 2), (87, .iastore, 1), (88, .iconst 1, 1), (89, .istore 4, 2), (91, .iinc 5 1, 3), (94, .goto (-88), 3), (97, .iload 4, 2), (99, .ireturn, 1)]
def eCd70 : List (Nat × Instr × Nat) := [(0, .aload_n 0, 1), (1, .getfield 17, 3), (4, .iload_n 1, 1), (5, .iload_n 2, 1), (6, .iconst (-1), 1), (7, .ixor, 1), (8, .iand, 1), (9, .iaload, 1), (10, .aload_n 0, 1), (11, .getfield 20, 3), (14, .iload_n 2, 1), (15, .iload_n 1, 1), (16, .iconst (-1), 1), (17, .ixor, 1), (18, .iand, 1), (19, .iaload, 1), (20, .iadd, 1), (21, .ireturn, 1)]
def eCd71 : List (Nat × Instr × Nat) := [(0, .aload_n 1, 1), (1, .getfield 64, 3), (4, .istore_n 2, 1), (5, .aload_n 1, 1), (6, .getfield 126, 3), (9, .istore_n 3, 1), (10, .iconst 0, 1), (11, .istore 4, 2), (13, .iload 4, 2), (15, .aload_n 0, 1), (16, .getfield 70, 3), (19, .if_icmp .ge 59, 3), (22, .aload_n 0, 1), (23, .aload_n 1, 1), (24, .iload_n 2, 1), (25, .iload_n 3, 1), (26, .aload_n 0, 1), (27, .getfield 70, 3), (30, .iconst 1, 1), (31, .isub, 1), (32, .iload 4, 2), (34, .isub, 1), (35, .sipush 256, 3), (38, .imul, 1), (39, .invokevirtual 176, 3), (42, .istore 5, 2), (44, .sipush 999, 3), (47, .iload_n 3, 1), (48, .aload_n 0, 1), (49, .iload_n 2, 1), (50, .iload 5, 2), (52, .invokevirtual 167, 3), (55, .iadd, 1), (56, .invokestatic 180, 3), (59, .istore_n 3, 1), (60, .aload_n 0, 1), (61, .getfield 36, 3), (64, .iload 4, 2), (66, .iload 5, 2), (68, .iastore, 1), (69, .iload 5, 2), (71, .istore_n 2, 1), (72, .iinc 4 1, 3), (75, .goto (-62), 3), (78, .return_, 1)]
def eCd72 : List (Nat × Instr × Nat) := [(0, .iconst 0, 1), (1, .istore 5, 2), (3, .iload 5, 2), (5, .aload_n 1, 1), (6, .invokevirtual 49, 3), (9, .if_icmp .gt 82, 3), (12, .aload_n 0, 1), (13, .getfield 23, 3), (16, .iload 5, 2), (18, .baload, 1), (19, .ifCond .eq 66, 3), (22, .aload_n 0, 1), (23, .getfield 27, 3), (26, .iload_n 2, 1), (27, .iload 5, 2), (29, .iand, 1), (30, .baload, 1), (31, .ifCond .eq 54, 3), (34, .aload_n 0, 1), (35, .getfield 13, 3), (38, .iload_n 2, 1), (39, .iload 5, 2), (41, .ixor, 1), (42, .iaload, 1), (43, .aload_n 1, 1), (44, .getfield 150, 3), (47, .if_icmp .gt 38, 3), (50, .sipush 999, 3), (53, .iload_n 3, 1), (54, .aload_n 0, 1), (55, .iload_n 2, 1), (56, .iload 5, 2), (58, .invokevirtual 167, 3), (61, .iadd, 1), (62, .invokestatic 180, 3), (65, .istore 6, 2), (67, .iload 6, 2), (69, .aload_n 0, 1), (70, .getfield 33, 3), (73, .iload 4, 2), (75, .iload 5, 2), (77, .iadd, 1), (78, .iaload, 1), (79, .if_icmp .lt 6, 3), (82, .iload 5, 2), (84, .ireturn, 1), (85, .iinc 5 1, 3), (88, .goto (-85), 3), (91, .iload_n 2, 1), (92, .ireturn, 1)]
def eCd73 : List (Nat × Instr × Nat) := [(0, .aload_n 0, 1), (1, .getfield 32, 3), (4, .aload_n 0, 1), (5, .getfield 10, 3), (8, .invokevirtual 190, 3), (11, .aload_n 0, 1), (12, .getfield 32, 3), (15, .getfield 193, 3), (18, .ifCond .eq 5, 3), (21, .iconst 0, 1), (22, .ireturn, 1), (23, .aload_n 0, 1), (24, .getfield 32, 3), (27, .getfield 203, 3), (30, .sipush 999, 3), (33, .if_icmp .gt 21, 3), (36, .aload_n 0, 1), (37, .getfield 32, 3), (40, .getfield 203, 3), (43, .aload_n 0, 1), (44, .getfield 10, 3), (47, .getfield 124, 3), (50, .isub, 1), (51, .goto 5, 3), (54, .bipush (-4), 2), (56, .ireturn, 1)]
def eCd74 : List (Nat × Instr × Nat) := [(0, .aload_n 0, 1), (1, .getfield 10, 3), (4, .iload_n 1, 1), (5, .i2l, 1), (6, .iload_n 2, 1), (7, .i2l, 1), (8, .invokevirtual 178, 3), (11, .ifCond .ne 5, 3), (14, .iconst (-1), 1), (15, .ireturn, 1), (16, .aload_n 0, 1), (17, .getfield 39, 3), (20, .aload_n 0, 1), (21, .getfield 10, 3), (24, .iload_n 1, 1), (25, .iload_n 2, 1), (26, .invokevirtual 206, 3), (29, .aload_n 0, 1), (30, .getfield 39, 3), (33, .invokevirtual 210, 3), (36, .ifCond .eq 13, 3), (39, .aload_n 0, 1), (40, .getfield 39, 3), (43, .invokevirtual 213, 3), (46, .goto 5, 3), (49, .bipush (-4), 2), (51, .ireturn, 1)]
def eCd75 : List (Nat × Instr × Nat) := [(0, .aload_n 0, 1), (1, .iconst 0, 1), (2, .putfield 39, 3), (5, .aload_n 0, 1), (6, .iconst 0, 1), (7, .putfield 43, 3), (10, .aload_n 0, 1), (11, .iconst 0, 1), (12, .putfield 46, 3), (15, .aload_n 0, 1), (16, .iconst 0, 1), (17, .putfield 49, 3), (20, .aload_n 0, 1), (21, .getfield 36, 3), (24, .iconst 0, 1), (25, .invokestatic 52, 3), (28, .aload_n 0, 1), (29, .iconst 0, 1), (30, .aload_n 1, 1), (31, .getfield 58, 3), (34, .invokevirtual 61, 3), (37, .iconst 0, 1), (38, .istore 4, 2), (40, .iload 4, 2), (42, .aload_n 1, 1), (43, .getfield 65, 3), (46, .if_icmp .ge 78, 3), (49, .aload_n 1, 1), (50, .getfield 68, 3), (53, .iload 4, 2), (55, .iaload, 1), (56, .iconst 2, 1), (57, .if_icmp .eq 61, 3), (60, .iload_n 2, 1), (61, .iload 4, 2), (63, .ishr, 1), (64, .iconst 1, 1), (65, .iand, 1), (66, .iconst 1, 1), (67, .if_icmp .ne 23, 3), (70, .aload_n 0, 1), (71, .aload_n 1, 1), (72, .getfield 71, 3), (75, .iload 4, 2), (77, .iaload, 1), (78, .aload_n 1, 1), (79, .iload 4, 2), (81, .invokevirtual 74, 3), (84, .invokevirtual 61, 3), (87, .goto 31, 3), (90, .iload_n 3, 1), (91, .iload 4, 2), (93, .ishr, 1), (94, .iconst 1, 1), (95, .iand, 1), (96, .iconst 1, 1), (97, .if_icmp .ne 21, 3), (100, .aload_n 0, 1), (101, .aload_n 1, 1), (102, .getfield 71, 3), (105, .iload 4, 2), (107, .iaload, 1), (108, .aload_n 1, 1), (109, .getfield 78, 3), (112, .iload 4, 2), (114, .iaload, 1), (115, .invokevirtual 81, 3), (118, .iinc 4 1, 3), (121, .goto (-81), 3), (124, .return_, 1)]
def eCd76 : List (Nat × Instr × Nat) := [(0, .iconst 0, 1), (1, .istore_n 2, 1), (2, .aload_n 0, 1), (3, .arraylength, 1), (4, .istore_n 3, 1), (5, .iload_n 2, 1), (6, .iload_n 3, 1), (7, .if_icmp .ge 13, 3), (10, .aload_n 0, 1), (11, .iload_n 2, 1), (12, .iload_n 1, 1), (13, .iastore, 1), (14, .iinc 2 1, 3), (17, .goto (-12), 3), (20, .return_, 1)]
def eCd77 : List (Nat × Instr × Nat) := [(0, .aload_n 0, 1), (1, .getfield 11, 3), (4, .aload_n 0, 1), (5, .getfield 39, 3), (8, .iload_n 1, 1), (9, .iastore, 1), (10, .aload_n 0, 1), (11, .getfield 15, 3), (14, .aload_n 0, 1), (15, .getfield 39, 3), (18, .iload_n 2, 1), (19, .iastore, 1), (20, .aload_n 0, 1), (21, .dup, 1), (22, .getfield 39, 3), (25, .iconst 1, 1), (26, .iadd, 1), (27, .putfield 39, 3), (30, .aload_n 0, 1), (31, .dup, 1), (32, .getfield 49, 3), (35, .iload_n 2, 1), (36, .iadd, 1), (37, .putfield 49, 3), (40, .return_, 1)]
def eCd78 : List (Nat × Instr × Nat) := [(0, .aload_n 0, 1), (1, .getfield 24, 3), (4, .aload_n 0, 1), (5, .getfield 43, 3), (8, .iload_n 1, 1), (9, .iastore, 1), (10, .aload_n 0, 1), (11, .getfield 27, 3), (14, .aload_n 0, 1), (15, .getfield 43, 3), (18, .iload_n 2, 1), (19, .iastore, 1), (20, .aload_n 0, 1), (21, .dup, 1), (22, .getfield 43, 3), (25, .iconst 1, 1), (26, .iadd, 1), (27, .putfield 43, 3), (30, .aload_n 0, 1), (31, .dup, 1), (32, .getfield 46, 3), (35, .iload_n 2, 1), (36, .iadd, 1), (37, .putfield 46, 3), (40, .return_, 1)]
def eCd79 : List (Nat × Instr × Nat) := [(0, .aload_n 0, 1), (1, .getfield 49, 3), (4, .aload_n 0, 1), (5, .getfield 46, 3), (8, .if_icmp .lt 7, 3), (11, .iconst 1, 1), (12, .goto 4, 3), (15, .iconst 0, 1), (16, .ireturn, 1)]
def eCd80 : List (Nat × Instr × Nat) := [(0, .iconst 0, 1), (1, .istore_n 1, 1), (2, .sipush 792, 3), (5, .istore_n 2, 1), (6, .iconst 0, 1), (7, .istore_n 3, 1), (8, .iload_n 3, 1), (9, .iload_n 2, 1), (10, .if_icmp .ge 54, 3), (13, .aload_n 0, 1), (14, .getfield 46, 3), (17, .ifCond .le 47, 3), (20, .aload_n 0, 1), (21, .invokevirtual 84, 3), (24, .aload_n 0, 1), (25, .invokevirtual 87, 3), (28, .istore 4, 2), (30, .iload 4, 2), (32, .ifCond .ge 5, 3), (35, .iload_n 1, 1), (36, .ireturn, 1), (37, .aload_n 0, 1), (38, .getfield 30, 3), (41, .iload 4, 2), (43, .iaload, 1), (44, .istore 5, 2), (46, .iload_n 1, 1), (47, .iload 5, 2), (49, .aload_n 0, 1), (50, .iload 4, 2), (52, .invokevirtual 91, 3), (55, .imul, 1), (56, .iadd, 1), (57, .istore_n 1, 1), (58, .iinc 3 1, 3), (61, .goto (-53), 3), (64, .iload_n 1, 1), (65, .ireturn, 1)]
def eCd81 : List (Nat × Instr × Nat) := [(0, .iconst 0, 1), (1, .istore_n 1, 1), (2, .iload_n 1, 1), (3, .aload_n 0, 1), (4, .getfield 39, 3), (7, .if_icmp .ge 37, 3), (10, .aload_n 0, 1), (11, .getfield 18, 3), (14, .iload_n 1, 1), (15, .aload_n 0, 1), (16, .getfield 15, 3), (19, .iload_n 1, 1), (20, .iaload, 1), (21, .ifCond .le 7, 3), (24, .iconst 0, 1), (25, .goto 5, 3), (28, .ldc 99, 2), (30, .iastore, 1), (31, .aload_n 0, 1), (32, .getfield 21, 3), (35, .iload_n 1, 1), (36, .iconst (-1), 1), (37, .iastore, 1), (38, .iinc 1 1, 3), (41, .goto (-39), 3), (44, .iconst 0, 1), (45, .istore_n 1, 1), (46, .iload_n 1, 1), (47, .aload_n 0, 1), (48, .getfield 43, 3), (51, .if_icmp .ge 24, 3), (54, .aload_n 0, 1), (55, .getfield 30, 3), (58, .iload_n 1, 1), (59, .ldc 99, 2), (61, .iastore, 1), (62, .aload_n 0, 1), (63, .getfield 33, 3), (66, .iload_n 1, 1), (67, .iconst (-1), 1), (68, .iastore, 1), (69, .iinc 1 1, 3), (72, .goto (-26), 3), (75, .iconst 1, 1), (76, .istore_n 1, 1), (77, .iconst 0, 1), (78, .istore_n 2, 1), (79, .iload_n 2, 1), (80, .bipush 17, 2), (82, .if_icmp .ge 61, 3), (85, .iload_n 1, 1), (86, .ifCond .eq 57, 3), (89, .iconst 0, 1), (90, .istore_n 1, 1), (91, .iconst 0, 1), (92, .istore_n 3, 1), (93, .iload_n 3, 1), (94, .aload_n 0, 1), (95, .getfield 39, 3), (98, .if_icmp .ge 39, 3), (101, .iconst 0, 1), (102, .istore 4, 2), (104, .iload 4, 2), (106, .aload_n 0, 1), (107, .getfield 43, 3), (110, .if_icmp .ge 21, 3), (113, .aload_n 0, 1), (114, .iload_n 3, 1), (115, .iload 4, 2), (117, .invokevirtual 100, 3), (120, .ifCond .eq 5, 3), (123, .iconst 1, 1), (124, .istore_n 1, 1), (125, .iinc 4 1, 3), (128, .goto (-24), 3), (131, .iinc 3 1, 3), (134, .goto (-41), 3), (137, .iinc 2 1, 3), (140, .goto (-61), 3), (143, .return_, 1)]
def eCd82 : List (Nat × Instr × Nat) := [(0, .iconst 0, 1), (1, .istore_n 3, 1), (2, .aload_n 0, 1), (3, .getfield 18, 3), (6, .iload_n 1, 1), (7, .iaload, 1), (8, .ldc 99, 2), (10, .if_icmp .ge 53, 3), (13, .aload_n 0, 1), (14, .getfield 18, 3), (17, .iload_n 1, 1), (18, .iaload, 1), (19, .aload_n 0, 1), (20, .iload_n 1, 1), (21, .iload_n 2, 1), (22, .invokevirtual 104, 3), (25, .iadd, 1), (26, .aload_n 0, 1), (27, .getfield 30, 3), (30, .iload_n 2, 1), (31, .iaload, 1), (32, .if_icmp .ge 31, 3), (35, .aload_n 0, 1), (36, .getfield 30, 3), (39, .iload_n 2, 1), (40, .aload_n 0, 1), (41, .getfield 18, 3), (44, .iload_n 1, 1), (45, .iaload, 1), (46, .aload_n 0, 1), (47, .iload_n 1, 1), (48, .iload_n 2, 1), (49, .invokevirtual 104, 3), (52, .iadd, 1), (53, .iastore, 1), (54, .aload_n 0, 1), (55, .getfield 33, 3), (58, .iload_n 2, 1), (59, .iload_n 1, 1), (60, .iastore, 1), (61, .iconst 1, 1), (62, .istore_n 3, 1), (63, .aload_n 0, 1), (64, .getfield 36, 3), (67, .iload_n 1, 1), (68, .bipush 8, 2), (70, .imul, 1), (71, .iload_n 2, 1), (72, .iadd, 1), (73, .iaload, 1), (74, .ifCond .le 62, 3), (77, .aload_n 0, 1), (78, .getfield 33, 3), (81, .iload_n 2, 1), (82, .iaload, 1), (83, .ifCond .lt 53, 3), (86, .aload_n 0, 1), (87, .getfield 30, 3), (90, .iload_n 2, 1), (91, .iaload, 1), (92, .aload_n 0, 1), (93, .iload_n 1, 1), (94, .iload_n 2, 1), (95, .invokevirtual 104, 3), (98, .isub, 1), (99, .aload_n 0, 1), (100, .getfield 18, 3), (103, .iload_n 1, 1), (104, .iaload, 1), (105, .if_icmp .ge 31, 3), (108, .aload_n 0, 1), (109, .getfield 18, 3), (112, .iload_n 1, 1), (113, .aload_n 0, 1), (114, .getfield 30, 3), (117, .iload_n 2, 1), (118, .iaload, 1), (119, .aload_n 0, 1), (120, .iload_n 1, 1), (121, .iload_n 2, 1), (122, .invokevirtual 104, 3), (125, .isub, 1), (126, .iastore, 1), (127, .aload_n 0, 1), (128, .getfield 21, 3), (131, .iload_n 1, 1), (132, .iload_n 2, 1), (133, .iastore, 1), (134, .iconst 1, 1), (135, .istore_n 3, 1), (136, .iload_n 3, 1), (137, .ireturn, 1)]
def eCd83 : List (Nat × Instr × Nat) := [(0, .aload_n 0, 1), (1, .getfield 11, 3), (4, .iload_n 1, 1), (5, .iaload, 1), (6, .aload_n 0, 1), (7, .getfield 24, 3), (10, .iload_n 2, 1), (11, .iaload, 1), (12, .isub, 1), (13, .invokestatic 94, 3), (16, .ireturn, 1)]
def eCd84 : List (Nat × Instr × Nat) := [(0, .iload_n 0, 1), (1, .ifCond .ge 8, 3), (4, .iload_n 0, 1), (5, .ineg, 1), (6, .goto 4, 3), (9, .iload_n 0, 1), (10, .ireturn, 1)]
def eCd85 : List (Nat × Instr × Nat) := [(0, .iconst (-1), 1), (1, .istore_n 1, 1), (2, .iconst 0, 1), (3, .istore_n 2, 1), (4, .iload_n 2, 1), (5, .aload_n 0, 1), (6, .getfield 43, 3), (9, .if_icmp .ge 48, 3), (12, .aload_n 0, 1), (13, .getfield 27, 3), (16, .iload_n 2, 1), (17, .iaload, 1), (18, .ifCond .le 33, 3), (21, .aload_n 0, 1), (22, .getfield 33, 3), (25, .iload_n 2, 1), (26, .iaload, 1), (27, .ifCond .lt 24, 3), (30, .iload_n 1, 1), (31, .ifCond .lt 18, 3), (34, .aload_n 0, 1), (35, .getfield 30, 3), (38, .iload_n 2, 1), (39, .iaload, 1), (40, .aload_n 0, 1), (41, .getfield 30, 3), (44, .iload_n 1, 1), (45, .iaload, 1), (46, .if_icmp .ge 5, 3), (49, .iload_n 2, 1), (50, .istore_n 1, 1), (51, .iinc 2 1, 3), (54, .goto (-50), 3), (57, .iload_n 1, 1), (58, .ireturn, 1)]
def eCd86 : List (Nat × Instr × Nat) := [(0, .aload_n 0, 1), (1, .getfield 27, 3), (4, .iload_n 1, 1), (5, .iaload, 1), (6, .istore_n 2, 1), (7, .aload_n 0, 1), (8, .getfield 33, 3), (11, .iload_n 1, 1), (12, .iaload, 1), (13, .istore_n 3, 1), (14, .iconst 0, 1), (15, .istore 4, 2), (17, .iload 4, 2), (19, .bipush 9, 2), (21, .if_icmp .ge 51, 3), (24, .aload_n 0, 1), (25, .getfield 21, 3), (28, .iload_n 3, 1), (29, .iaload, 1), (30, .ifCond .lt 42, 3), (33, .aload_n 0, 1), (34, .getfield 21, 3), (37, .iload_n 3, 1), (38, .iaload, 1), (39, .istore 5, 2), (41, .iload_n 2, 1), (42, .aload_n 0, 1), (43, .getfield 36, 3), (46, .iload_n 3, 1), (47, .bipush 8, 2), (49, .imul, 1), (50, .iload 5, 2), (52, .iadd, 1), (53, .iaload, 1), (54, .invokestatic 108, 3), (57, .istore_n 2, 1), (58, .aload_n 0, 1), (59, .getfield 33, 3), (62, .iload 5, 2), (64, .iaload, 1), (65, .istore_n 3, 1), (66, .iinc 4 1, 3), (69, .goto (-52), 3), (72, .iload_n 2, 1), (73, .aload_n 0, 1), (74, .getfield 15, 3), (77, .iload_n 3, 1), (78, .iaload, 1), (79, .invokestatic 108, 3), (82, .istore_n 2, 1), (83, .aload_n 0, 1), (84, .iload_n 1, 1), (85, .iload_n 2, 1), (86, .invokevirtual 111, 3), (89, .iload_n 2, 1), (90, .ireturn, 1)]
def eCd87 : List (Nat × Instr × Nat) := [(0, .aload_n 0, 1), (1, .getfield 33, 3), (4, .iload_n 1, 1), (5, .iaload, 1), (6, .istore_n 3, 1), (7, .aload_n 0, 1), (8, .getfield 36, 3), (11, .iload_n 3, 1), (12, .bipush 8, 2), (14, .imul, 1), (15, .iload_n 1, 1), (16, .iadd, 1), (17, .dup2, 1), (18, .iaload, 1), (19, .iload_n 2, 1), (20, .iadd, 1), (21, .iastore, 1), (22, .iconst 0, 1), (23, .istore 4, 2), (25, .iload 4, 2), (27, .bipush 9, 2), (29, .if_icmp .ge 66, 3), (32, .aload_n 0, 1), (33, .getfield 21, 3), (36, .iload_n 3, 1), (37, .iaload, 1), (38, .ifCond .lt 57, 3), (41, .aload_n 0, 1), (42, .getfield 21, 3), (45, .iload_n 3, 1), (46, .iaload, 1), (47, .istore 5, 2), (49, .aload_n 0, 1), (50, .getfield 36, 3), (53, .iload_n 3, 1), (54, .bipush 8, 2), (56, .imul, 1), (57, .iload 5, 2), (59, .iadd, 1), (60, .dup2, 1), (61, .iaload, 1), (62, .iload_n 2, 1), (63, .isub, 1), (64, .iastore, 1), (65, .aload_n 0, 1), (66, .getfield 33, 3), (69, .iload 5, 2), (71, .iaload, 1), (72, .istore_n 3, 1), (73, .aload_n 0, 1), (74, .getfield 36, 3), (77, .iload_n 3, 1), (78, .bipush 8, 2), (80, .imul, 1), (81, .iload 5, 2), (83, .iadd, 1), (84, .dup2, 1), (85, .iaload, 1), (86, .iload_n 2, 1), (87, .iadd, 1), (88, .iastore, 1), (89, .iinc 4 1, 3), (92, .goto (-67), 3), (95, .aload_n 0, 1), (96, .getfield 15, 3), (99, .iload_n 3, 1), (100, .dup2, 1), (101, .iaload, 1), (102, .iload_n 2, 1), (103, .isub, 1), (104, .iastore, 1), (105, .aload_n 0, 1), (106, .getfield 27, 3), (109, .iload_n 1, 1), (110, .dup2, 1), (111, .iaload, 1), (112, .iload_n 2, 1), (113, .isub, 1), (114, .iastore, 1), (115, .aload_n 0, 1), (116, .dup, 1), (117, .getfield 46, 3), (120, .iload_n 2, 1), (121, .isub, 1), (122, .putfield 46, 3), (125, .return_, 1)]
def eCd88 : List (Nat × Instr × Nat) := [(0, .iload_n 1, 1), (1, .invokestatic 217, 3), (4, .ifCond .eq 14, 3), (7, .iload_n 2, 1), (8, .iconst 1, 1), (9, .if_icmp .lt 9, 3), (12, .iload_n 2, 1), (13, .bipush 60, 2), (15, .if_icmp .le 5, 3), (18, .iconst (-1), 1), (19, .ireturn, 1), (20, .aload_n 0, 1), (21, .getfield 46, 3), (24, .aload_n 0, 1), (25, .getfield 10, 3), (28, .iload_n 1, 1), (29, .invokevirtual 220, 3), (32, .iconst 0, 1), (33, .istore_n 3, 1), (34, .iload_n 3, 1), (35, .iload_n 2, 1), (36, .if_icmp .ge 23, 3), (39, .aload_n 0, 1), (40, .getfield 46, 3), (43, .aload_n 0, 1), (44, .getfield 10, 3), (47, .invokevirtual 224, 3), (50, .ifCond .eq 9, 3), (53, .iinc 3 1, 3), (56, .goto (-22), 3), (59, .aload_n 0, 1), (60, .getfield 32, 3), (63, .invokevirtual 82, 3), (66, .iload_n 3, 1), (67, .ireturn, 1)]
def eCd89 : List (Nat × Instr × Nat) := [(0, .iload_n 0, 1), (1, .ifCond .lt 12, 3), (4, .iload_n 0, 1), (5, .iconst 3, 1), (6, .if_icmp .gt 7, 3), (9, .iconst 1, 1), (10, .goto 4, 3), (13, .iconst 0, 1), (14, .ireturn, 1)]
def eCd90 : List (Nat × Instr × Nat) := [(0, .iconst 0, 1), (1, .istore_n 3, 1), (2, .iload_n 3, 1), (3, .aload_n 1, 1), (4, .getfield 15, 3), (7, .if_icmp .ge 16, 3), (10, .aload_n 0, 1), (11, .getfield 9, 3), (14, .iload_n 3, 1), (15, .iload_n 3, 1), (16, .iastore, 1), (17, .iinc 3 1, 3), (20, .goto (-18), 3), (23, .iload_n 2, 1), (24, .iconst 1, 1), (25, .if_icmp .gt 8, 3), (28, .aload_n 0, 1), (29, .aload_n 1, 1), (30, .invokevirtual 19, 3), (33, .iload_n 2, 1), (34, .iconst 1, 1), (35, .if_icmp .eq 8, 3), (38, .iload_n 2, 1), (39, .iconst 3, 1), (40, .if_icmp .ne 11, 3), (43, .aload_n 0, 1), (44, .aload_n 1, 1), (45, .getfield 15, 3), (48, .invokevirtual 23, 3), (51, .return_, 1)]
def eCd91 : List (Nat × Instr × Nat) := [(0, .iconst 1, 1), (1, .istore_n 2, 1), (2, .iload_n 2, 1), (3, .aload_n 1, 1), (4, .getfield 15, 3), (7, .if_icmp .ge 77, 3), (10, .aload_n 0, 1), (11, .getfield 9, 3), (14, .iload_n 2, 1), (15, .iaload, 1), (16, .istore_n 3, 1), (17, .iload_n 2, 1), (18, .istore 4, 2), (20, .iload 4, 2), (22, .ifCond .le 48, 3), (25, .aload_n 1, 1), (26, .getfield 27, 3), (29, .aload_n 0, 1), (30, .getfield 9, 3), (33, .iload 4, 2), (35, .iconst 1, 1), (36, .isub, 1), (37, .iaload, 1), (38, .iaload, 1), (39, .aload_n 1, 1), (40, .getfield 27, 3), (43, .iload_n 3, 1), (44, .iaload, 1), (45, .if_icmp .le 25, 3), (48, .aload_n 0, 1), (49, .getfield 9, 3), (52, .iload 4, 2), (54, .aload_n 0, 1), (55, .getfield 9, 3), (58, .iload 4, 2), (60, .iconst 1, 1), (61, .isub, 1), (62, .iaload, 1), (63, .iastore, 1), (64, .iinc 4 (-1), 3), (67, .goto (-47), 3), (70, .aload_n 0, 1), (71, .getfield 9, 3), (74, .iload 4, 2), (76, .iload_n 3, 1), (77, .iastore, 1), (78, .iinc 2 1, 3), (81, .goto (-79), 3), (84, .return_, 1)]
def eCd92 : List (Nat × Instr × Nat) := [(0, .iconst 0, 1), (1, .istore_n 2, 1), (2, .iload_n 2, 1), (3, .iload_n 1, 1), (4, .iconst 2, 1), (5, .idiv, 1), (6, .if_icmp .ge 43, 3), (9, .aload_n 0, 1), (10, .getfield 9, 3), (13, .iload_n 2, 1), (14, .iaload, 1), (15, .istore_n 3, 1), (16, .aload_n 0, 1), (17, .getfield 9, 3), (20, .iload_n 2, 1), (21, .aload_n 0, 1), (22, .getfield 9, 3), (25, .iload_n 1, 1), (26, .iconst 1, 1), (27, .isub, 1), (28, .iload_n 2, 1), (29, .isub, 1), (30, .iaload, 1), (31, .iastore, 1), (32, .aload_n 0, 1), (33, .getfield 9, 3), (36, .iload_n 1, 1), (37, .iconst 1, 1), (38, .isub, 1), (39, .iload_n 2, 1), (40, .isub, 1), (41, .iload_n 3, 1), (42, .iastore, 1), (43, .iinc 2 1, 3), (46, .goto (-44), 3), (49, .return_, 1)]
def eCd93 : List (Nat × Instr × Nat) := [(0, .aload_n 1, 1), (1, .getfield 30, 3), (4, .aload_n 1, 1), (5, .getfield 33, 3), (8, .iconst (-1), 1), (9, .ixor, 1), (10, .iand, 1), (11, .istore_n 2, 1), (12, .aload_n 1, 1), (13, .getfield 33, 3), (16, .aload_n 1, 1), (17, .getfield 30, 3), (20, .iconst (-1), 1), (21, .ixor, 1), (22, .iand, 1), (23, .istore_n 3, 1), (24, .aload_n 0, 1), (25, .aload_n 1, 1), (26, .iload_n 2, 1), (27, .iload_n 3, 1), (28, .invokevirtual 36, 3), (31, .ifCond .ne 23, 3), (34, .aload_n 0, 1), (35, .aload_n 1, 1), (36, .iload_n 2, 1), (37, .iconst 1, 1), (38, .invokevirtual 40, 3), (41, .ifCond .ne 13, 3), (44, .aload_n 0, 1), (45, .aload_n 1, 1), (46, .iload_n 3, 1), (47, .iconst 0, 1), (48, .invokevirtual 40, 3), (51, .ifCond .eq 7, 3), (54, .iconst 1, 1), (55, .goto 4, 3), (58, .iconst 0, 1), (59, .ireturn, 1)]
def eCd94 : List (Nat × Instr × Nat) := [(0, .iconst 0, 1), (1, .istore 4, 2), (3, .iload 4, 2), (5, .aload_n 1, 1), (6, .getfield 15, 3), (9, .if_icmp .ge 84, 3), (12, .iconst 1, 1), (13, .aload_n 0, 1), (14, .getfield 9, 3), (17, .iload 4, 2), (19, .iaload, 1), (20, .ishl, 1), (21, .istore 5, 2), (23, .iconst 0, 1), (24, .istore 6, 2), (26, .iload 6, 2), (28, .aload_n 1, 1), (29, .getfield 15, 3), (32, .if_icmp .ge 55, 3), (35, .iconst 1, 1), (36, .aload_n 0, 1), (37, .getfield 9, 3), (40, .iload 6, 2), (42, .iaload, 1), (43, .ishl, 1), (44, .istore 7, 2), (46, .iload_n 2, 1), (47, .iload 5, 2), (49, .iand, 1), (50, .ifCond .eq 31, 3), (53, .iload_n 3, 1), (54, .iload 7, 2), (56, .iand, 1), (57, .ifCond .eq 24, 3), (60, .aload_n 1, 1), (61, .iload 5, 2), (63, .iload 7, 2), (65, .invokevirtual 44, 3), (68, .ifCond .eq 13, 3), (71, .aload_n 1, 1), (72, .iload 5, 2), (74, .iload 7, 2), (76, .invokevirtual 48, 3), (79, .iconst 1, 1), (80, .ireturn, 1), (81, .iinc 6 1, 3), (84, .goto (-58), 3), (87, .iinc 4 1, 3), (90, .goto (-87), 3), (93, .iconst 0, 1), (94, .ireturn, 1)]
def eCd95 : List (Nat × Instr × Nat) := [(0, .iconst 0, 1), (1, .istore 4, 2), (3, .iload 4, 2), (5, .aload_n 1, 1), (6, .getfield 15, 3), (9, .if_icmp .ge 69, 3), (12, .iconst 1, 1), (13, .aload_n 0, 1), (14, .getfield 9, 3), (17, .iload 4, 2), (19, .iaload, 1), (20, .ishl, 1), (21, .istore 5, 2), (23, .iload_n 3, 1), (24, .ifCond .eq 8, 3), (27, .iload 5, 2), (29, .goto 4, 3), (32, .iconst 0, 1), (33, .istore 6, 2), (35, .iload 5, 2), (37, .iload 6, 2), (39, .iconst (-1), 1), (40, .ixor, 1), (41, .iand, 1), (42, .istore 7, 2), (44, .iload_n 2, 1), (45, .iload 5, 2), (47, .iand, 1), (48, .ifCond .eq 24, 3), (51, .aload_n 1, 1), (52, .iload 6, 2), (54, .iload 7, 2), (56, .invokevirtual 44, 3), (59, .ifCond .eq 13, 3), (62, .aload_n 1, 1), (63, .iload 6, 2), (65, .iload 7, 2), (67, .invokevirtual 48, 3), (70, .iconst 1, 1), (71, .ireturn, 1), (72, .iinc 4 1, 3), (75, .goto (-72), 3), (78, .iconst 0, 1), (79, .ireturn, 1)]
def eCd96 : List (Nat × Instr × Nat) := [(0, .iload_n 1, 1), (1, .invokestatic 67, 3), (4, .ifCond .eq 12, 3), (7, .iload_n 2, 1), (8, .ifCond .lt 8, 3), (11, .iload_n 2, 1), (12, .iconst 1, 1), (13, .if_icmp .le 5, 3), (16, .iconst (-1), 1), (17, .ireturn, 1), (18, .aload_n 0, 1), (19, .getfield 32, 3), (22, .aload_n 0, 1), (23, .getfield 10, 3), (26, .iload_n 1, 1), (27, .invokevirtual 227, 3), (30, .istore_n 3, 1), (31, .iload_n 3, 1), (32, .invokestatic 231, 3), (35, .istore 4, 2), (37, .iload_n 2, 1), (38, .ifCond .ne 7, 3), (41, .iload_n 3, 1), (42, .goto 5, 3), (45, .bipush 24, 2), (47, .iconst 1, 1), (48, .iload 4, 2), (50, .invokestatic 234, 3), (53, .idiv, 1), (54, .ireturn, 1)]
def eCd97 : List (Nat × Instr × Nat) := [(0, .aload_n 0, 1), (1, .getfield 46, 3), (4, .ifCond .ne 17, 3), (7, .aload_n 0, 1), (8, .aload_n 0, 1), (9, .aload_n 1, 1), (10, .invokevirtual 77, 3), (13, .putfield 81, 3), (16, .aload_n 0, 1), (17, .iconst 1, 1), (18, .putfield 46, 3), (21, .iconst 0, 1), (22, .istore_n 3, 1), (23, .iconst 0, 1), (24, .istore 4, 2), (26, .iload 4, 2), (28, .bipush 16, 2), (30, .if_icmp .ge 60, 3), (33, .iload 4, 2), (35, .iconst 1, 1), (36, .iload_n 2, 1), (37, .ishl, 1), (38, .ior, 1), (39, .istore 5, 2), (41, .iload 5, 2), (43, .iload 4, 2), (45, .if_icmp .eq 39, 3), (48, .aload_n 0, 1), (49, .getfield 81, 3), (52, .iload 5, 2), (54, .invokestatic 84, 3), (57, .ifCond .eq 27, 3), (60, .aload_n 0, 1), (61, .getfield 81, 3), (64, .iload 4, 2), (66, .invokestatic 84, 3), (69, .ifCond .ne 15, 3), (72, .iload_n 3, 1), (73, .getstatic 88, 3), (76, .iload 4, 2), (78, .invokestatic 91, 3), (81, .iaload, 1), (82, .iadd, 1), (83, .istore_n 3, 1), (84, .iinc 4 1, 3), (87, .goto (-61), 3), (90, .iload_n 3, 1), (91, .ireturn, 1)]
def eCd98 : List (Nat × Instr × Nat) := [(0, .iconst 0, 1), (1, .istore_n 2, 1), (2, .iconst 0, 1), (3, .istore_n 3, 1), (4, .iload_n 3, 1), (5, .bipush 16, 2), (7, .if_icmp .ge 36, 3), (10, .iload_n 2, 1), (11, .iload_n 3, 1), (12, .invokestatic 97, 3), (15, .ifCond .ne 16, 3), (18, .aload_n 0, 1), (19, .aload_n 1, 1), (20, .aload_n 1, 1), (21, .iload_n 3, 1), (22, .invokestatic 100, 3), (25, .invokevirtual 53, 3), (28, .ifCond .eq 9, 3), (31, .iload_n 2, 1), (32, .iconst 1, 1), (33, .iload_n 3, 1), (34, .ishl, 1), (35, .ior, 1), (36, .istore_n 2, 1), (37, .iinc 3 1, 3), (40, .goto (-36), 3), (43, .iload_n 2, 1), (44, .ireturn, 1)]
def eCd99 : List (Nat × Instr × Nat) := [(0, .iconst 0, 1), (1, .istore_n 2, 1), (2, .iload_n 2, 1), (3, .iconst 4, 1), (4, .if_icmp .ge 32, 3), (7, .iload_n 1, 1), (8, .iconst 1, 1), (9, .iload_n 2, 1), (10, .ishl, 1), (11, .iconst (-1), 1), (12, .ixor, 1), (13, .iand, 1), (14, .istore_n 3, 1), (15, .iload_n 3, 1), (16, .iload_n 1, 1), (17, .if_icmp .eq 13, 3), (20, .iload_n 0, 1), (21, .iload_n 3, 1), (22, .invokestatic 84, 3), (25, .ifCond .eq 5, 3), (28, .iconst 1, 1), (29, .ireturn, 1), (30, .iinc 2 1, 3), (33, .goto (-31), 3), (36, .iconst 0, 1), (37, .ireturn, 1)]
def eCd100 : List (Nat × Instr × Nat) := [(0, .iload_n 0, 1), (1, .iload_n 1, 1), (2, .ishr, 1), (3, .iconst 1, 1), (4, .iand, 1), (5, .iconst 1, 1), (6, .if_icmp .ne 7, 3), (9, .iconst 1, 1), (10, .goto 4, 3), (13, .iconst 0, 1), (14, .ireturn, 1)]
def eCd101 : List (Nat × Instr × Nat) := [(0, .iconst 0, 1), (1, .istore_n 2, 1), (2, .iconst 0, 1), (3, .istore_n 3, 1), (4, .iload_n 3, 1), (5, .aload_n 0, 1), (6, .getfield 104, 3), (9, .if_icmp .ge 29, 3), (12, .iload_n 1, 1), (13, .aload_n 0, 1), (14, .getfield 107, 3), (17, .iload_n 3, 1), (18, .iaload, 1), (19, .ishr, 1), (20, .iconst 1, 1), (21, .iand, 1), (22, .iconst 1, 1), (23, .if_icmp .ne 9, 3), (26, .iload_n 2, 1), (27, .iconst 1, 1), (28, .iload_n 3, 1), (29, .ishl, 1), (30, .ior, 1), (31, .istore_n 2, 1), (32, .iinc 3 1, 3), (35, .goto (-31), 3), (38, .iload_n 2, 1), (39, .ireturn, 1)]
def eCd102 : List (Nat × Instr × Nat) := [(0, .iload_n 0, 1), (1, .iload_n 0, 1), (2, .iconst 1, 1), (3, .iushr, 1), (4, .ldc_w 265, 3), (7, .iand, 1), (8, .isub, 1), (9, .istore_n 0, 1), (10, .iload_n 0, 1), (11, .ldc_w 266, 3), (14, .iand, 1), (15, .iload_n 0, 1), (16, .iconst 2, 1), (17, .iushr, 1), (18, .ldc_w 266, 3), (21, .iand, 1), (22, .iadd, 1), (23, .istore_n 0, 1), (24, .iload_n 0, 1), (25, .iload_n 0, 1), (26, .iconst 4, 1), (27, .iushr, 1), (28, .iadd, 1), (29, .ldc_w 267, 3), (32, .iand, 1), (33, .istore_n 0, 1), (34, .iload_n 0, 1), (35, .iload_n 0, 1), (36, .bipush 8, 2), (38, .iushr, 1), (39, .iadd, 1), (40, .istore_n 0, 1), (41, .iload_n 0, 1), (42, .iload_n 0, 1), (43, .bipush 16, 2), (45, .iushr, 1), (46, .iadd, 1), (47, .istore_n 0, 1), (48, .iload_n 0, 1), (49, .bipush 63, 2), (51, .iand, 1), (52, .ireturn, 1)]
def eCd103 : List (Nat × Instr × Nat) := [(0, .bipush 24, 2), (2, .istore_n 1, 1), (3, .iload_n 1, 1), (4, .iconst 1, 1), (5, .if_icmp .le 24, 3), (8, .iload_n 0, 1), (9, .iload_n 1, 1), (10, .irem, 1), (11, .ifCond .ne 12, 3), (14, .bipush 24, 2), (16, .iload_n 1, 1), (17, .irem, 1), (18, .ifCond .ne 5, 3), (21, .iload_n 1, 1), (22, .ireturn, 1), (23, .iinc 1 (-1), 3), (26, .goto (-23), 3), (29, .iconst 1, 1), (30, .ireturn, 1)]
def eCd104 : List (Nat × Instr × Nat) := [(0, .aload_n 0, 1), (1, .getfield 16, 3), (4, .aload_n 0, 1), (5, .getfield 10, 3), (8, .invokevirtual 147, 3), (11, .aload_n 0, 1), (12, .iconst 1, 1), (13, .putfield 240, 3), (16, .iconst 1, 1), (17, .ireturn, 1)]
def eCd105 : List (Nat × Instr × Nat) := [(0, .aload_n 0, 1), (1, .getfield 240, 3), (4, .ifCond .ne 6, 3), (7, .bipush (-4), 2), (9, .ireturn, 1), (10, .aload_n 0, 1), (11, .getfield 10, 3), (14, .aload_n 0, 1), (15, .getfield 16, 3), (18, .invokevirtual 147, 3), (21, .aload_n 0, 1), (22, .getfield 32, 3), (25, .invokevirtual 82, 3), (28, .iconst 1, 1), (29, .ireturn, 1)]
def eCd106 : List (Nat × Instr × Nat) := [(0, .aload_n 0, 1), (1, .iload_n 1, 1), (2, .iload_n 2, 1), (3, .iload_n 3, 1), (4, .iload 4, 2), (6, .invokevirtual 243, 3), (9, .istore 5, 2), (11, .iload 5, 2), (13, .ifCond .eq 6, 3), (16, .iload 5, 2), (18, .ireturn, 1), (19, .aload_n 0, 1), (20, .iload_n 1, 1), (21, .iload_n 3, 1), (22, .iload 4, 2), (24, .iconst (-1), 1), (25, .invokevirtual 247, 3), (28, .istore 6, 2), (30, .iload 6, 2), (32, .iload 4, 2), (34, .if_icmp .ge 8, 3), (37, .iload 6, 2), (39, .goto 5, 3), (42, .bipush (-4), 2), (44, .ireturn, 1)]
def eCd107 : List (Nat × Instr × Nat) := [(0, .iload 4, 2), (2, .iconst 1, 1), (3, .if_icmp .lt 10, 3), (6, .iload 4, 2), (8, .bipush 8, 2), (10, .if_icmp .le 5, 3), (13, .iconst (-1), 1), (14, .ireturn, 1), (15, .aload_n 0, 1), (16, .getfield 53, 3), (19, .iload_n 1, 1), (20, .iload_n 2, 1), (21, .iload_n 3, 1), (22, .iconst 2, 1), (23, .iload 4, 2), (25, .imul, 1), (26, .invokevirtual 250, 3), (29, .ireturn, 1)]
def eCd108 : List (Nat × Instr × Nat) := [(0, .iload_n 1, 1), (1, .iload_n 2, 1), (2, .invokestatic 26, 3), (5, .ifCond .ne 5, 3), (8, .iconst (-1), 1), (9, .ireturn, 1), (10, .aload_n 0, 1), (11, .iload_n 1, 1), (12, .invokevirtual 30, 3), (15, .ifCond .eq 6, 3), (18, .bipush (-11), 2), (20, .ireturn, 1), (21, .aload_n 0, 1), (22, .getfield 15, 3), (25, .iload_n 1, 1), (26, .iaload, 1), (27, .iload_n 2, 1), (28, .if_icmp .eq 6, 3), (31, .bipush (-12), 2), (33, .ireturn, 1), (34, .aload_n 0, 1), (35, .iload_n 1, 1), (36, .iload_n 3, 1), (37, .iload 4, 2), (39, .invokevirtual 33, 3), (42, .ifCond .eq 7, 3), (45, .iconst 0, 1), (46, .goto 5, 3), (49, .bipush (-13), 2), (51, .ireturn, 1)]
def eCd109 : List (Nat × Instr × Nat) := [(0, .iload_n 0, 1), (1, .invokestatic 22, 3), (4, .ifCond .eq 16, 3), (7, .iload_n 1, 1), (8, .ifCond .lt 12, 3), (11, .iload_n 1, 1), (12, .iconst 2, 1), (13, .if_icmp .gt 7, 3), (16, .iconst 1, 1), (17, .goto 4, 3), (20, .iconst 0, 1), (21, .ireturn, 1)]
def eCd110 : List (Nat × Instr × Nat) := [(0, .iload_n 0, 1), (1, .ifCond .lt 12, 3), (4, .iload_n 0, 1), (5, .iconst 4, 1), (6, .if_icmp .ge 7, 3), (9, .iconst 1, 1), (10, .goto 4, 3), (13, .iconst 0, 1), (14, .ireturn, 1)]
def eCd111 : List (Nat × Instr × Nat) := [(0, .aload_n 0, 1), (1, .getfield 19, 3), (4, .iload_n 1, 1), (5, .iaload, 1), (6, .ifCond .ge 7, 3), (9, .iconst 1, 1), (10, .goto 4, 3), (13, .iconst 0, 1), (14, .ireturn, 1)]
def eCd112 : List (Nat × Instr × Nat) := [(0, .iload_n 2, 1), (1, .ifCond .lt 33, 3), (4, .iload_n 3, 1), (5, .ifCond .lt 29, 3), (8, .iload_n 3, 1), (9, .aload_n 0, 1), (10, .getfield 19, 3), (13, .iload_n 1, 1), (14, .iaload, 1), (15, .if_icmp .gt 19, 3), (18, .iload_n 2, 1), (19, .aload_n 0, 1), (20, .getfield 19, 3), (23, .iload_n 1, 1), (24, .iaload, 1), (25, .iload_n 3, 1), (26, .isub, 1), (27, .if_icmp .gt 7, 3), (30, .iconst 1, 1), (31, .goto 4, 3), (34, .iconst 0, 1), (35, .ireturn, 1)]
def eCd113 : List (Nat × Instr × Nat) := [(0, .aload_n 0, 1), (1, .getfield 19, 3), (4, .aload_n 0, 1), (5, .getfield 10, 3), (8, .invokevirtual 147, 3), (11, .iconst 0, 1), (12, .istore 5, 2), (14, .iload 5, 2), (16, .iload_n 3, 1), (17, .if_icmp .ge 33, 3), (20, .iload 5, 2), (22, .iload 4, 2), (24, .if_icmp .eq 20, 3), (27, .aload_n 0, 1), (28, .iload_n 1, 1), (29, .iload_n 2, 1), (30, .iconst 2, 1), (31, .iload 5, 2), (33, .imul, 1), (34, .iadd, 1), (35, .invokevirtual 253, 3), (38, .ifCond .ne 6, 3), (41, .iload 5, 2), (43, .ireturn, 1), (44, .iinc 5 1, 3), (47, .goto (-33), 3), (50, .iload_n 3, 1), (51, .ireturn, 1)]
def eCd114 : List (Nat × Instr × Nat) := [(0, .aload_n 0, 1), (1, .getfield 53, 3), (4, .iload_n 1, 1), (5, .iload_n 2, 1), (6, .invokevirtual 256, 3), (9, .lstore_n 3, 1), (10, .aload_n 0, 1), (11, .getfield 53, 3), (14, .iload_n 1, 1), (15, .iload_n 2, 1), (16, .iconst 1, 1), (17, .iadd, 1), (18, .invokevirtual 256, 3), (21, .lstore 5, 2), (23, .aload_n 0, 1), (24, .getfield 19, 3), (27, .lload_n 3, 1), (28, .lload 5, 2), (30, .invokevirtual 178, 3), (33, .ifCond .eq 18, 3), (36, .aload_n 0, 1), (37, .getfield 19, 3), (40, .lload_n 3, 1), (41, .l2i, 1), (42, .lload 5, 2), (44, .l2i, 1), (45, .invokevirtual 182, 3), (48, .ifCond .ne 5, 3), (51, .iconst 0, 1), (52, .ireturn, 1), (53, .aload_n 0, 1), (54, .getfield 19, 3), (57, .lload_n 3, 1), (58, .l2i, 1), (59, .lload 5, 2), (61, .l2i, 1), (62, .invokevirtual 186, 3), (65, .iconst 1, 1), (66, .ireturn, 1)]
def eCd115 : List (Nat × Instr × Nat) := [(0, .aload_n 0, 1), (1, .getfield 11, 3), (4, .iload_n 1, 1), (5, .bipush 24, 2), (7, .imul, 1), (8, .iload_n 2, 1), (9, .iadd, 1), (10, .laload, 1), (11, .lreturn, 1)]
def eCd116 : List (Nat × Instr × Nat) := [(0, .aload_n 0, 1), (1, .getfield 10, 3), (4, .iload 5, 2), (6, .i2l, 1), (7, .invokevirtual 70, 3), (10, .ifCond .ne 5, 3), (13, .iconst (-1), 1), (14, .ireturn, 1), (15, .aload_n 0, 1), (16, .iload_n 1, 1), (17, .iload_n 2, 1), (18, .iload_n 3, 1), (19, .iload 4, 2), (21, .invokevirtual 243, 3), (24, .istore 6, 2), (26, .iload 6, 2), (28, .ifCond .eq 6, 3), (31, .iload 6, 2), (33, .ireturn, 1), (34, .iconst 0, 1), (35, .istore 7, 2), (37, .iconst 0, 1), (38, .istore 8, 2), (40, .iload 8, 2), (42, .iload 4, 2), (44, .if_icmp .ge 45, 3), (47, .aload_n 0, 1), (48, .iload_n 1, 1), (49, .iload_n 3, 1), (50, .iload 4, 2), (52, .iload 8, 2), (54, .invokevirtual 247, 3), (57, .iload 4, 2), (59, .if_icmp .ne 24, 3), (62, .aload_n 0, 1), (63, .getfield 19, 3), (66, .getfield 108, 3), (69, .iload 5, 2), (71, .if_icmp .ne 12, 3), (74, .iload 7, 2), (76, .iconst 1, 1), (77, .iload 8, 2), (79, .ishl, 1), (80, .ior, 1), (81, .istore 7, 2), (83, .iinc 8 1, 3), (86, .goto (-46), 3), (89, .iload 7, 2), (91, .ireturn, 1)]
def eCd117 : List (Nat × Instr × Nat) := [(0, .iload_n 1, 1), (1, .iload_n 2, 1), (2, .invokestatic 260, 3), (5, .ifCond .eq 9, 3), (8, .iload_n 3, 1), (9, .bipush 24, 2), (11, .if_icmp .le 5, 3), (14, .iconst (-1), 1), (15, .ireturn, 1), (16, .iload_n 3, 1), (17, .ifCond .ge 6, 3), (20, .bipush (-14), 2), (22, .ireturn, 1), (23, .aload_n 0, 1), (24, .getfield 53, 3), (27, .iload_n 1, 1), (28, .iload_n 2, 1), (29, .iload_n 3, 1), (30, .invokevirtual 263, 3), (33, .iload_n 3, 1), (34, .ireturn, 1)]
def eCd118 : List (Nat × Instr × Nat) := [(0, .aload_n 0, 1), (1, .getfield 15, 3), (4, .iload_n 1, 1), (5, .iload_n 2, 1), (6, .iastore, 1), (7, .aload_n 0, 1), (8, .getfield 19, 3), (11, .iload_n 1, 1), (12, .iload_n 3, 1), (13, .iastore, 1), (14, .aload_n 0, 1), (15, .getfield 11, 3), (18, .iload_n 1, 1), (19, .bipush 24, 2), (21, .imul, 1), (22, .iload_n 1, 1), (23, .iconst 1, 1), (24, .iadd, 1), (25, .bipush 24, 2), (27, .imul, 1), (28, .lconst 0, 1), (29, .invokestatic 37, 3), (32, .return_, 1)]
def eCd119 : List (Nat × Instr × Nat) := [(0, .aload_n 0, 1), (1, .arraylength, 1), (2, .iload_n 1, 1), (3, .iload_n 2, 1), (4, .invokestatic 13, 3), (7, .iload_n 1, 1), (8, .istore 5, 2), (10, .iload 5, 2), (12, .iload_n 2, 1), (13, .if_icmp .ge 14, 3), (16, .aload_n 0, 1), (17, .iload 5, 2), (19, .lload_n 3, 1), (20, .lastore, 1), (21, .iinc 5 1, 3), (24, .goto (-14), 3), (27, .return_, 1)]
def eCd120 : List (Nat × Instr × Nat) := [(0, .iload_n 1, 1), (1, .invokestatic 267, 3), (4, .ifCond .ne 5, 3), (7, .iconst (-1), 1), (8, .ireturn, 1), (9, .aload_n 0, 1), (10, .getfield 53, 3), (13, .iload_n 1, 1), (14, .invokevirtual 270, 3), (17, .ifCond .eq 6, 3), (20, .bipush (-11), 2), (22, .ireturn, 1), (23, .aload_n 0, 1), (24, .getfield 53, 3), (27, .iload_n 1, 1), (28, .invokevirtual 273, 3), (31, .ireturn, 1)]
def eCd121 : List (Nat × Instr × Nat) := [(0, .aload_n 0, 1), (1, .getfield 19, 3), (4, .iload_n 1, 1), (5, .iaload, 1), (6, .istore_n 2, 1), (7, .aload_n 0, 1), (8, .getfield 19, 3), (11, .iload_n 1, 1), (12, .iconst (-1), 1), (13, .iastore, 1), (14, .iload_n 2, 1), (15, .ireturn, 1)]
def eCd122 : List (Nat × Instr × Nat) := [(0, .aload_n 0, 1), (1, .getfield 53, 3), (4, .iload_n 1, 1), (5, .iload_n 2, 1), (6, .iload_n 3, 1), (7, .iconst 1, 1), (8, .invokevirtual 250, 3), (11, .istore 6, 2), (13, .iload 6, 2), (15, .ifCond .eq 6, 3), (18, .iload 6, 2), (20, .ireturn, 1), (21, .aload_n 0, 1), (22, .getfield 53, 3), (25, .iload_n 1, 1), (26, .iload_n 3, 1), (27, .lload 4, 2), (29, .invokevirtual 276, 3), (32, .iconst 1, 1), (33, .ireturn, 1)]
def eCd123 : List (Nat × Instr × Nat) := [(0, .lload_n 3, 1), (1, .lstore 5, 2), (3, .aload_n 0, 1), (4, .getfield 15, 3), (7, .iload_n 1, 1), (8, .iaload, 1), (9, .ifCond .ne 12, 3), (12, .lload_n 3, 1), (13, .l2i, 1), (14, .i2s, 1), (15, .i2l, 1), (16, .lstore 5, 2), (18, .goto 18, 3), (21, .aload_n 0, 1), (22, .getfield 15, 3), (25, .iload_n 1, 1), (26, .iaload, 1), (27, .iconst 1, 1), (28, .if_icmp .ne 8, 3), (31, .lload_n 3, 1), (32, .l2i, 1), (33, .i2l, 1), (34, .lstore 5, 2), (36, .aload_n 0, 1), (37, .getfield 11, 3), (40, .iload_n 1, 1), (41, .bipush 24, 2), (43, .imul, 1), (44, .iload_n 2, 1), (45, .iadd, 1), (46, .lload 5, 2), (48, .lastore, 1), (49, .return_, 1)]
def eCd124 : List (Nat × Instr × Nat) := [(0, .iload_n 1, 1), (1, .iload_n 2, 1), (2, .invokestatic 260, 3), (5, .ifCond .ne 5, 3), (8, .iconst (-1), 1), (9, .ireturn, 1), (10, .aload_n 0, 1), (11, .getfield 32, 3), (14, .aload_n 0, 1), (15, .getfield 10, 3), (18, .invokevirtual 190, 3), (21, .aload_n 0, 1), (22, .getfield 32, 3), (25, .getfield 193, 3), (28, .ifCond .ne 6, 3), (31, .bipush (-4), 2), (33, .ireturn, 1), (34, .aload_n 0, 1), (35, .getfield 53, 3), (38, .iload_n 1, 1), (39, .iload_n 2, 1), (40, .iload_n 3, 1), (41, .aload_n 0, 1), (42, .getfield 32, 3), (45, .getfield 197, 3), (48, .invokevirtual 250, 3), (51, .istore 4, 2), (53, .iload 4, 2), (55, .ifCond .eq 6, 3), (58, .iload 4, 2), (60, .ireturn, 1), (61, .iconst 0, 1), (62, .istore 5, 2), (64, .iload 5, 2), (66, .aload_n 0, 1), (67, .getfield 32, 3), (70, .getfield 197, 3), (73, .if_icmp .ge 32, 3), (76, .aload_n 0, 1), (77, .getfield 53, 3), (80, .iload_n 1, 1), (81, .iload_n 3, 1), (82, .iload 5, 2), (84, .iadd, 1), (85, .aload_n 0, 1), (86, .getfield 32, 3), (89, .getfield 200, 3), (92, .iload 5, 2), (94, .iaload, 1), (95, .i2l, 1), (96, .invokevirtual 276, 3), (99, .iinc 5 1, 3), (102, .goto (-38), 3), (105, .aload_n 0, 1), (106, .getfield 32, 3), (109, .getfield 197, 3), (112, .ireturn, 1)]
def eCd125 : List (Nat × Instr × Nat) := [(0, .iload_n 1, 1), (1, .invokestatic 267, 3), (4, .ifCond .eq 10, 3), (7, .iload_n 3, 1), (8, .invokestatic 267, 3), (11, .ifCond .ne 5, 3), (14, .iconst (-1), 1), (15, .ireturn, 1), (16, .aload_n 0, 1), (17, .getfield 53, 3), (20, .iload_n 1, 1), (21, .invokevirtual 270, 3), (24, .ifCond .ne 14, 3), (27, .aload_n 0, 1), (28, .getfield 53, 3), (31, .iload_n 3, 1), (32, .invokevirtual 270, 3), (35, .ifCond .eq 6, 3), (38, .bipush (-11), 2), (40, .ireturn, 1), (41, .aload_n 0, 1), (42, .getfield 53, 3), (45, .iload_n 1, 1), (46, .iload_n 3, 1), (47, .invokevirtual 280, 3), (50, .ifCond .ne 6, 3), (53, .bipush (-12), 2), (55, .ireturn, 1), (56, .aload_n 0, 1), (57, .getfield 53, 3), (60, .iload_n 1, 1), (61, .iload_n 2, 1), (62, .iload 5, 2), (64, .invokevirtual 283, 3), (67, .ifCond .eq 18, 3), (70, .aload_n 0, 1), (71, .getfield 53, 3), (74, .iload_n 3, 1), (75, .iload 4, 2), (77, .iload 5, 2), (79, .invokevirtual 283, 3), (82, .ifCond .ne 6, 3), (85, .bipush (-13), 2), (87, .ireturn, 1), (88, .aload_n 0, 1), (89, .getfield 53, 3), (92, .iload_n 1, 1), (93, .iload_n 2, 1), (94, .iload_n 3, 1), (95, .iload 4, 2), (97, .iload 5, 2), (99, .invokevirtual 287, 3), (102, .iload 5, 2), (104, .ireturn, 1)]
def eCd126 : List (Nat × Instr × Nat) := [(0, .aload_n 0, 1), (1, .getfield 15, 3), (4, .iload_n 1, 1), (5, .iaload, 1), (6, .aload_n 0, 1), (7, .getfield 15, 3), (10, .iload_n 2, 1), (11, .iaload, 1), (12, .if_icmp .ne 7, 3), (15, .iconst 1, 1), (16, .goto 4, 3), (19, .iconst 0, 1), (20, .ireturn, 1)]
def eCd127 : List (Nat × Instr × Nat) := [(0, .aload_n 0, 1), (1, .getfield 11, 3), (4, .iload_n 1, 1), (5, .bipush 24, 2), (7, .imul, 1), (8, .iload_n 2, 1), (9, .iadd, 1), (10, .aload_n 0, 1), (11, .getfield 11, 3), (14, .iload_n 3, 1), (15, .bipush 24, 2), (17, .imul, 1), (18, .iload 4, 2), (20, .iadd, 1), (21, .iload 5, 2), (23, .invokestatic 43, 3), (26, .return_, 1)]
def eCd128 : List (Nat × Instr × Nat) := [(0, .aload_n 0, 1), (1, .invokespecial 1, 3), (4, .aload_n 0, 1), (5, .bipush 40, 2), (7, .newarray .int, 2), (9, .putfield 7, 3), (12, .aload_n 0, 1), (13, .sipush 200, 3), (16, .putfield 13, 3), (19, .aload_n 0, 1), (20, .iconst 4, 1), (21, .newarray .int, 2), (23, .putfield 17, 3), (26, .aload_n 0, 1), (27, .sipush 160, 3), (30, .newarray .int, 2), (32, .putfield 20, 3), (35, .aload_n 0, 1), (36, .bipush 40, 2), (38, .newarray .int, 2), (40, .putfield 23, 3), (43, .aload_n 0, 1), (44, .sipush 256, 3), (47, .newarray .int, 2), (49, .putfield 26, 3), (52, .aload_n 0, 1), (53, .sipush 256, 3), (56, .newarray .boolean, 2), (58, .putfield 29, 3), (61, .aload_n 0, 1), (62, .sipush 256, 3), (65, .newarray .int, 2), (67, .putfield 33, 3), (70, .aload_n 0, 1), (71, .sipush 256, 3), (74, .newarray .int, 2), (76, .putfield 36, 3), (79, .aload_n 0, 1), (80, .ldc 39, 2), (82, .newarray .int, 2), (84, .putfield 40, 3), (87, .aload_n 0, 1), (88, .sipush 256, 3), (91, .newarray .int, 2), (93, .putfield 43, 3), (96, .aload_n 0, 1), (97, .sipush 256, 3), (100, .newarray .int, 2), (102, .putfield 46, 3), (105, .aload_n 0, 1), (106, .bipush 9, 2), (108, .newarray .int, 2), (110, .putfield 49, 3), (113, .aload_n 0, 1), (114, .bipush 8, 2), (116, .newarray .int, 2), (118, .putfield 52, 3), (121, .aload_n 0, 1), (122, .bipush 72, 2), (124, .newarray .int, 2), (126, .putfield 55, 3), (129, .aload_n 0, 1), (130, .bipush 17, 2), (132, .newarray .int, 2), (134, .putfield 58, 3), (137, .aload_n 0, 1), (138, .bipush 17, 2), (140, .newarray .int, 2), (142, .putfield 61, 3), (145, .aload_n 0, 1), (146, .bipush 8, 2), (148, .newarray .int, 2), (150, .putfield 64, 3), (153, .aload_n 0, 1), (154, .bipush 16, 2), (156, .newarray .boolean, 2), (158, .putfield 67, 3), (161, .aload_n 0, 1), (162, .bipush 44, 2), (164, .newarray .int, 2), (166, .putfield 70, 3), (169, .aload_n 0, 1), (170, .bipush 6, 2), (172, .newarray .int, 2), (174, .putfield 73, 3), (177, .aload_n 0, 1), (178, .iconst 4, 1), (179, .newarray .int, 2), (181, .putfield 76, 3), (184, .aload_n 0, 1), (185, .iconst 4, 1), (186, .newarray .int, 2), (188, .putfield 79, 3), (191, .aload_n 0, 1), (192, .bipush 96, 2), (194, .newarray .long, 2), (196, .putfield 82, 3), (199, .aload_n 0, 1), (200, .bipush 24, 2), (202, .newarray .long, 2), (204, .putfield 86, 3), (207, .iconst 0, 1), (208, .istore_n 1, 1), (209, .iload_n 1, 1), (210, .iconst 4, 1), (211, .if_icmp .ge 16, 3), (214, .aload_n 0, 1), (215, .getfield 76, 3), (218, .iload_n 1, 1), (219, .iconst (-1), 1), (220, .iastore, 1), (221, .iinc 1 1, 3), (224, .goto (-15), 3), (227, .return_, 1)]
def eCd129 : List (Nat × Instr × Nat) := [(0, .iload_n 1, 1), (1, .i2l, 1), (2, .lconst 0, 1), (3, .ldc2_w 96, 3), (6, .invokestatic 92, 3), (9, .ifCond .eq 50, 3), (12, .iload_n 2, 1), (13, .i2l, 1), (14, .lconst 1, 1), (15, .ldc2_w 98, 3), (18, .invokestatic 92, 3), (21, .ifCond .eq 38, 3), (24, .iload_n 3, 1), (25, .i2l, 1), (26, .lconst 0, 1), (27, .ldc2_w 98, 3), (30, .invokestatic 92, 3), (33, .ifCond .eq 26, 3), (36, .iload 4, 2), (38, .i2l, 1), (39, .lconst 0, 1), (40, .ldc2_w 96, 3), (43, .invokestatic 92, 3), (46, .ifCond .eq 13, 3), (49, .aload_n 0, 1), (50, .iload 5, 2), (52, .i2l, 1), (53, .invokevirtual 100, 3), (56, .ifCond .ne 5, 3), (59, .iconst (-1), 1), (60, .ireturn, 1), (61, .aload_n 0, 1), (62, .getfield 89, 3), (65, .bipush 8, 2), (67, .if_icmp .ne 6, 3), (70, .bipush (-3), 2), (72, .ireturn, 1), (73, .aload_n 0, 1), (74, .iload_n 1, 1), (75, .iload_n 2, 1), (76, .iload_n 3, 1), (77, .iload 4, 2), (79, .iload 5, 2), (81, .invokevirtual 104, 3), (84, .aload_n 0, 1), (85, .getfield 89, 3), (88, .iconst 1, 1), (89, .isub, 1), (90, .ireturn, 1)]
def eCd130 : List (Nat × Instr × Nat) := [(0, .lload_n 0, 1), (1, .lload_n 2, 1), (2, .lcmp, 1), (3, .ifCond .lt 14, 3), (6, .lload_n 0, 1), (7, .lload 4, 2), (9, .lcmp, 1), (10, .ifCond .gt 7, 3), (13, .iconst 1, 1), (14, .goto 4, 3), (17, .iconst 0, 1), (18, .ireturn, 1)]
def eCd131 : List (Nat × Instr × Nat) := [(0, .lload_n 1, 1), (1, .lconst 0, 1), (2, .iconst 1, 1), (3, .aload_n 0, 1), (4, .getfield 89, 3), (7, .ishl, 1), (8, .iconst 1, 1), (9, .isub, 1), (10, .i2l, 1), (11, .invokestatic 92, 3), (14, .ireturn, 1)]
def eCd132 : List (Nat × Instr × Nat) := [(0, .iconst 5, 1), (1, .aload_n 0, 1), (2, .getfield 89, 3), (5, .imul, 1), (6, .istore 6, 2), (8, .aload_n 0, 1), (9, .getfield 7, 3), (12, .iload 6, 2), (14, .iload_n 1, 1), (15, .iastore, 1), (16, .aload_n 0, 1), (17, .getfield 7, 3), (20, .iload 6, 2), (22, .iconst 1, 1), (23, .iadd, 1), (24, .iload_n 2, 1), (25, .iastore, 1), (26, .aload_n 0, 1), (27, .getfield 7, 3), (30, .iload 6, 2), (32, .iconst 2, 1), (33, .iadd, 1), (34, .iload_n 3, 1), (35, .iastore, 1), (36, .aload_n 0, 1), (37, .getfield 7, 3), (40, .iload 6, 2), (42, .iconst 3, 1), (43, .iadd, 1), (44, .iload 4, 2), (46, .iastore, 1), (47, .aload_n 0, 1), (48, .getfield 7, 3), (51, .iload 6, 2), (53, .iconst 4, 1), (54, .iadd, 1), (55, .iload 5, 2), (57, .iastore, 1), (58, .aload_n 0, 1), (59, .dup, 1), (60, .getfield 89, 3), (63, .iconst 1, 1), (64, .iadd, 1), (65, .putfield 89, 3), (68, .return_, 1)]
def eCd133 : List (Nat × Instr × Nat) := [(0, .iload_n 1, 1), (1, .i2l, 1), (2, .lconst 0, 1), (3, .aload_n 0, 1), (4, .getfield 89, 3), (7, .iconst 1, 1), (8, .isub, 1), (9, .i2l, 1), (10, .invokestatic 92, 3), (13, .ifCond .eq 15, 3), (16, .iload_n 2, 1), (17, .i2l, 1), (18, .lconst 0, 1), (19, .ldc2_w 108, 3), (22, .invokestatic 92, 3), (25, .ifCond .ne 5, 3), (28, .iconst (-1), 1), (29, .ireturn, 1), (30, .iload_n 2, 1), (31, .iconst 5, 1), (32, .if_icmp .ge 16, 3), (35, .aload_n 0, 1), (36, .getfield 7, 3), (39, .iconst 5, 1), (40, .iload_n 1, 1), (41, .imul, 1), (42, .iload_n 2, 1), (43, .iadd, 1), (44, .iaload, 1), (45, .goto 11, 3), (48, .aload_n 0, 1), (49, .getfield 110, 3), (52, .iload_n 1, 1), (53, .ishr, 1), (54, .iconst 1, 1), (55, .iand, 1), (56, .ireturn, 1)]
def eCd134 : List (Nat × Instr × Nat) := [(0, .aload_n 0, 1), (1, .iload_n 1, 1), (2, .i2l, 1), (3, .invokevirtual 100, 3), (6, .ifCond .ne 5, 3), (9, .iconst (-1), 1), (10, .ireturn, 1), (11, .aload_n 0, 1), (12, .iload_n 1, 1), (13, .invokevirtual 117, 3), (16, .ifCond .ne 6, 3), (19, .bipush (-2), 2), (21, .ireturn, 1), (22, .aload_n 0, 1), (23, .getfield 110, 3), (26, .istore_n 2, 1), (27, .aload_n 0, 1), (28, .iload_n 1, 1), (29, .putfield 110, 3), (32, .iload_n 2, 1), (33, .ireturn, 1)]
def eCd135 : List (Nat × Instr × Nat) := [(0, .iconst 1, 1), (1, .istore_n 2, 1), (2, .iconst 0, 1), (3, .istore_n 3, 1), (4, .iload_n 3, 1), (5, .aload_n 0, 1), (6, .getfield 89, 3), (9, .if_icmp .ge 44, 3), (12, .iload_n 2, 1), (13, .ifCond .eq 32, 3), (16, .iload_n 1, 1), (17, .iload_n 3, 1), (18, .invokestatic 113, 3), (21, .ifCond .eq 20, 3), (24, .aload_n 0, 1), (25, .getfield 7, 3), (28, .iconst 5, 1), (29, .iload_n 3, 1), (30, .imul, 1), (31, .iconst 4, 1), (32, .iadd, 1), (33, .iaload, 1), (34, .iload_n 1, 1), (35, .iconst (-1), 1), (36, .ixor, 1), (37, .iand, 1), (38, .ifCond .ne 7, 3), (41, .iconst 1, 1), (42, .goto 4, 3), (45, .iconst 0, 1), (46, .istore_n 2, 1), (47, .iinc 3 1, 3), (50, .goto (-46), 3), (53, .iload_n 2, 1), (54, .ireturn, 1)]
def eCd136 : List (Nat × Instr × Nat) := [(0, .iload_n 0, 1), (1, .iload_n 1, 1), (2, .ishr, 1), (3, .iconst 1, 1), (4, .iand, 1), (5, .iconst 1, 1), (6, .if_icmp .ne 7, 3), (9, .iconst 1, 1), (10, .goto 4, 3), (13, .iconst 0, 1), (14, .ireturn, 1)]
def eCd137 : List (Nat × Instr × Nat) := [(0, .aload_n 0, 1), (1, .iload_n 1, 1), (2, .i2l, 1), (3, .invokevirtual 100, 3), (6, .ifCond .eq 7, 3), (9, .iload_n 1, 1), (10, .ifCond .ne 5, 3), (13, .iconst (-1), 1), (14, .ireturn, 1), (15, .aload_n 0, 1), (16, .getfield 121, 3), (19, .iconst 4, 1), (20, .if_icmp .ne 6, 3), (23, .bipush (-3), 2), (25, .ireturn, 1), (26, .aload_n 0, 1), (27, .getfield 17, 3), (30, .aload_n 0, 1), (31, .getfield 121, 3), (34, .iload_n 1, 1), (35, .iastore, 1), (36, .aload_n 0, 1), (37, .dup, 1), (38, .getfield 121, 3), (41, .iconst 1, 1), (42, .iadd, 1), (43, .putfield 121, 3), (46, .aload_n 0, 1), (47, .getfield 121, 3), (50, .iconst 1, 1), (51, .isub, 1), (52, .ireturn, 1)]
def eCd138 : List (Nat × Instr × Nat) := [(0, .iload_n 1, 1), (1, .i2l, 1), (2, .lconst 0, 1), (3, .lconst 1, 1), (4, .invokestatic 92, 3), (7, .ifCond .eq 16, 3), (10, .iload_n 2, 1), (11, .i2l, 1), (12, .iload_n 1, 1), (13, .i2l, 1), (14, .ldc2_w 124, 3), (17, .invokestatic 92, 3), (20, .ifCond .ne 5, 3), (23, .iconst (-1), 1), (24, .ireturn, 1), (25, .iload_n 1, 1), (26, .ifCond .ne 10, 3), (29, .aload_n 0, 1), (30, .getfield 126, 3), (33, .goto 7, 3), (36, .aload_n 0, 1), (37, .getfield 13, 3), (40, .istore_n 3, 1), (41, .aload_n 0, 1), (42, .iload_n 1, 1), (43, .ifCond .ne 7, 3), (46, .iload_n 2, 1), (47, .goto 7, 3), (50, .aload_n 0, 1), (51, .getfield 126, 3), (54, .putfield 126, 3), (57, .aload_n 0, 1), (58, .iload_n 1, 1), (59, .iconst 1, 1), (60, .if_icmp .ne 7, 3), (63, .iload_n 2, 1), (64, .goto 7, 3), (67, .aload_n 0, 1), (68, .getfield 13, 3), (71, .putfield 13, 3), (74, .iload_n 3, 1), (75, .ireturn, 1)]
def eCd139 : List (Nat × Instr × Nat) := [(0, .aload_n 0, 1), (1, .iload_n 1, 1), (2, .i2l, 1), (3, .invokevirtual 100, 3), (6, .ifCond .ne 5, 3), (9, .iconst (-1), 1), (10, .ireturn, 1), (11, .aload_n 0, 1), (12, .getfield 129, 3), (15, .istore_n 2, 1), (16, .aload_n 0, 1), (17, .iload_n 1, 1), (18, .putfield 129, 3), (21, .iload_n 2, 1), (22, .ireturn, 1)]
def eCd140 : List (Nat × Instr × Nat) := [(0, .iload_n 1, 1), (1, .tableswitch 77 0 5 #[39, 44, 49, 54, 59, 68], 39), (40, .aload_n 0, 1), (41, .getfield 89, 3), (44, .ireturn, 1), (45, .aload_n 0, 1), (46, .getfield 110, 3), (49, .ireturn, 1), (50, .aload_n 0, 1), (51, .getfield 126, 3), (54, .ireturn, 1), (55, .aload_n 0, 1), (56, .getfield 121, 3), (59, .ireturn, 1), (60, .aload_n 0, 1), (61, .aload_n 0, 1), (62, .getfield 110, 3), (65, .invokevirtual 132, 3), (68, .ireturn, 1), (69, .aload_n 0, 1), (70, .aload_n 0, 1), (71, .getfield 110, 3), (74, .invokevirtual 136, 3), (77, .ireturn, 1), (78, .iconst (-1), 1), (79, .ireturn, 1)]
def eCd141 : List (Nat × Instr × Nat) := [(0, .iconst 0, 1), (1, .istore_n 2, 1), (2, .iconst 0, 1), (3, .istore_n 3, 1), (4, .iload_n 3, 1), (5, .aload_n 0, 1), (6, .getfield 89, 3), (9, .if_icmp .ge 34, 3), (12, .iload_n 2, 1), (13, .iload_n 1, 1), (14, .iload_n 3, 1), (15, .invokestatic 113, 3), (18, .ifCond .eq 16, 3), (21, .aload_n 0, 1), (22, .getfield 7, 3), (25, .iconst 5, 1), (26, .iload_n 3, 1), (27, .imul, 1), (28, .iconst 1, 1), (29, .iadd, 1), (30, .iaload, 1), (31, .goto 4, 3), (34, .iconst 0, 1), (35, .iadd, 1), (36, .istore_n 2, 1), (37, .iinc 3 1, 3), (40, .goto (-36), 3), (43, .iload_n 2, 1), (44, .ireturn, 1)]
def eCd142 : List (Nat × Instr × Nat) := [(0, .iconst 0, 1), (1, .istore_n 2, 1), (2, .iconst 0, 1), (3, .istore_n 3, 1), (4, .iload_n 3, 1), (5, .aload_n 0, 1), (6, .getfield 121, 3), (9, .if_icmp .ge 30, 3), (12, .iload_n 2, 1), (13, .aload_n 0, 1), (14, .getfield 17, 3), (17, .iload_n 3, 1), (18, .iaload, 1), (19, .iload_n 1, 1), (20, .iand, 1), (21, .ifCond .eq 9, 3), (24, .iconst 1, 1), (25, .iload_n 3, 1), (26, .ishl, 1), (27, .goto 4, 3), (30, .iconst 0, 1), (31, .ior, 1), (32, .istore_n 2, 1), (33, .iinc 3 1, 3), (36, .goto (-32), 3), (39, .iload_n 2, 1), (40, .ireturn, 1)]
def eCd143 : List (Nat × Instr × Nat) := [(0, .iload_n 3, 1), (1, .i2l, 1), (2, .lconst 1, 1), (3, .ldc2_w 139, 3), (6, .invokestatic 92, 3), (9, .ifCond .ne 5, 3), (12, .iconst (-1), 1), (13, .ireturn, 1), (14, .iload_n 3, 1), (15, .iconst 1, 1), (16, .isub, 1), (17, .istore 4, 2), (19, .iload 4, 2), (21, .ifCond .lt 34, 3), (24, .lload_n 1, 1), (25, .bipush 8, 2), (27, .iload 4, 2), (29, .imul, 1), (30, .lshr, 1), (31, .ldc2_w 141, 3), (34, .land, 1), (35, .ldc2_w 143, 3), (38, .ldc2_w 145, 3), (41, .invokestatic 92, 3), (44, .ifCond .ne 5, 3), (47, .iconst (-1), 1), (48, .ireturn, 1), (49, .iinc 4 (-1), 3), (52, .goto (-33), 3), (55, .aload_n 0, 1), (56, .getfield 147, 3), (59, .iload_n 3, 1), (60, .iadd, 1), (61, .sipush 160, 3), (64, .if_icmp .le 6, 3), (67, .bipush (-3), 2), (69, .ireturn, 1), (70, .iload_n 3, 1), (71, .iconst 1, 1), (72, .isub, 1), (73, .istore 4, 2), (75, .iload 4, 2), (77, .ifCond .lt 40, 3), (80, .aload_n 0, 1), (81, .getfield 20, 3), (84, .aload_n 0, 1), (85, .getfield 147, 3), (88, .lload_n 1, 1), (89, .bipush 8, 2), (91, .iload 4, 2), (93, .imul, 1), (94, .lshr, 1), (95, .ldc2_w 141, 3), (98, .land, 1), (99, .l2i, 1), (100, .iastore, 1), (101, .aload_n 0, 1), (102, .dup, 1), (103, .getfield 147, 3), (106, .iconst 1, 1), (107, .iadd, 1), (108, .putfield 147, 3), (111, .iinc 4 (-1), 3), (114, .goto (-39), 3), (117, .aload_n 0, 1), (118, .getfield 147, 3), (121, .ireturn, 1)]
def eCd144 : List (Nat × Instr × Nat) := [(0, .aload_n 0, 1), (1, .iconst 1, 1), (2, .invokevirtual 180, 3), (5, .istore_n 1, 1), (6, .iload_n 1, 1), (7, .ifCond .ne 8, 3), (10, .aload_n 0, 1), (11, .invokevirtual 153, 3), (14, .pop, 1), (15, .aload_n 0, 1), (16, .iconst 0, 1), (17, .putfield 147, 3), (20, .iload_n 1, 1), (21, .ifCond .ne 11, 3), (24, .bipush (-20), 2), (26, .aload_n 0, 1), (27, .getfield 150, 3), (30, .isub, 1), (31, .ireturn, 1), (32, .aload_n 0, 1), (33, .iconst 0, 1), (34, .putfield 89, 3), (37, .aload_n 0, 1), (38, .iconst 0, 1), (39, .putfield 121, 3), (42, .aload_n 0, 1), (43, .iconst 0, 1), (44, .putfield 129, 3), (47, .iconst 0, 1), (48, .istore_n 2, 1), (49, .iload_n 2, 1), (50, .aload_n 0, 1), (51, .getfield 177, 3), (54, .if_icmp .ge 61, 3), (57, .aload_n 0, 1), (58, .aload_n 0, 1), (59, .getfield 23, 3), (62, .iconst 5, 1), (63, .iload_n 2, 1), (64, .imul, 1), (65, .iaload, 1), (66, .aload_n 0, 1), (67, .getfield 23, 3), (70, .iconst 5, 1), (71, .iload_n 2, 1), (72, .imul, 1), (73, .iconst 1, 1), (74, .iadd, 1), (75, .iaload, 1), (76, .aload_n 0, 1), (77, .getfield 23, 3), (80, .iconst 5, 1), (81, .iload_n 2, 1), (82, .imul, 1), (83, .iconst 2, 1), (84, .iadd, 1), (85, .iaload, 1), (86, .aload_n 0, 1), (87, .getfield 23, 3), (90, .iconst 5, 1), (91, .iload_n 2, 1), (92, .imul, 1), (93, .iconst 3, 1), (94, .iadd, 1), (95, .iaload, 1), (96, .aload_n 0, 1), (97, .getfield 23, 3), (100, .iconst 5, 1), (101, .iload_n 2, 1), (102, .imul, 1), (103, .iconst 4, 1), (104, .iadd, 1), (105, .iaload, 1), (106, .invokevirtual 104, 3), (109, .iinc 2 1, 3), (112, .goto (-63), 3), (115, .aload_n 0, 1), (116, .aload_n 0, 1), (117, .getfield 171, 3), (120, .putfield 110, 3), (123, .aload_n 0, 1), (124, .getfield 89, 3), (127, .ireturn, 1)]
def eCd145 : List (Nat × Instr × Nat) := [(0, .aload_n 0, 1), (1, .iconst 0, 1), (2, .putfield 150, 3), (5, .aload_n 0, 1), (6, .iconst 0, 1), (7, .putfield 171, 3), (10, .iload_n 1, 1), (11, .ifCond .eq 8, 3), (14, .bipush 8, 2), (16, .goto 4, 3), (19, .iconst 4, 1), (20, .istore_n 2, 1), (21, .iconst 0, 1), (22, .istore_n 3, 1), (23, .iload_n 3, 1), (24, .iload_n 2, 1), (25, .if_icmp .ge 94, 3), (28, .iload_n 1, 1), (29, .ifCond .eq 13, 3), (32, .aload_n 0, 1), (33, .iload_n 3, 1), (34, .invokevirtual 174, 3), (37, .ifCond .ne 30, 3), (40, .iconst 0, 1), (41, .ireturn, 1), (42, .aload_n 0, 1), (43, .getfield 23, 3), (46, .iload_n 3, 1), (47, .aload_n 0, 1), (48, .aload_n 0, 1), (49, .getfield 89, 3), (52, .invokevirtual 168, 3), (55, .iastore, 1), (56, .aload_n 0, 1), (57, .getfield 23, 3), (60, .iload_n 3, 1), (61, .iaload, 1), (62, .ifCond .ge 5, 3), (65, .iconst 0, 1), (66, .ireturn, 1), (67, .aload_n 0, 1), (68, .iload_n 3, 1), (69, .iconst 1, 1), (70, .iadd, 1), (71, .putfield 177, 3), (74, .aload_n 0, 1), (75, .invokevirtual 153, 3), (78, .istore 4, 2), (80, .iload 4, 2), (82, .ifCond .ge 5, 3), (85, .iconst 1, 1), (86, .ireturn, 1), (87, .iload 4, 2), (89, .bipush 44, 2), (91, .if_icmp .ne 10, 3), (94, .iload_n 3, 1), (95, .iload_n 2, 1), (96, .iconst 1, 1), (97, .isub, 1), (98, .if_icmp .ne 5, 3), (101, .iconst 0, 1), (102, .ireturn, 1), (103, .aload_n 0, 1), (104, .dup, 1), (105, .getfield 150, 3), (108, .iconst 1, 1), (109, .iadd, 1), (110, .putfield 150, 3), (113, .iinc 3 1, 3), (116, .goto (-93), 3), (119, .iconst 0, 1), (120, .ireturn, 1)]
def eCd146 : List (Nat × Instr × Nat) := [(0, .iconst 5, 1), (1, .iload_n 1, 1), (2, .imul, 1), (3, .istore_n 2, 1), (4, .aload_n 0, 1), (5, .invokevirtual 153, 3), (8, .istore_n 3, 1), (9, .aload_n 0, 1), (10, .getfield 23, 3), (13, .iload_n 2, 1), (14, .iload_n 3, 1), (15, .bipush 104, 2), (17, .if_icmp .ne 7, 3), (20, .iconst 0, 1), (21, .goto 34, 3), (24, .iload_n 3, 1), (25, .bipush 98, 2), (27, .if_icmp .ne 7, 3), (30, .iconst 1, 1), (31, .goto 24, 3), (34, .iload_n 3, 1), (35, .bipush 99, 2), (37, .if_icmp .ne 7, 3), (40, .iconst 2, 1), (41, .goto 14, 3), (44, .iload_n 3, 1), (45, .bipush 114, 2), (47, .if_icmp .ne 7, 3), (50, .iconst 3, 1), (51, .goto 4, 3), (54, .iconst (-1), 1), (55, .iastore, 1), (56, .aload_n 0, 1), (57, .getfield 23, 3), (60, .iload_n 2, 1), (61, .iaload, 1), (62, .ifCond .ge 5, 3), (65, .iconst 0, 1), (66, .ireturn, 1), (67, .aload_n 0, 1), (68, .dup, 1), (69, .getfield 150, 3), (72, .iconst 1, 1), (73, .iadd, 1), (74, .putfield 150, 3), (77, .aload_n 0, 1), (78, .getfield 23, 3), (81, .iload_n 2, 1), (82, .iconst 1, 1), (83, .iadd, 1), (84, .aload_n 0, 1), (85, .iconst 1, 1), (86, .bipush 99, 2), (88, .invokevirtual 161, 3), (91, .iastore, 1), (92, .aload_n 0, 1), (93, .getfield 23, 3), (96, .iload_n 2, 1), (97, .iconst 1, 1), (98, .iadd, 1), (99, .iaload, 1), (100, .ifCond .ge 5, 3), (103, .iconst 0, 1), (104, .ireturn, 1), (105, .aload_n 0, 1), (106, .getfield 23, 3), (109, .iload_n 2, 1), (110, .iconst 2, 1), (111, .iadd, 1), (112, .aload_n 0, 1), (113, .bipush 64, 2), (115, .invokevirtual 165, 3), (118, .ifCond .eq 13, 3), (121, .aload_n 0, 1), (122, .iconst 0, 1), (123, .bipush 99, 2), (125, .invokevirtual 161, 3), (128, .goto 4, 3), (131, .iconst 0, 1), (132, .iastore, 1), (133, .aload_n 0, 1), (134, .getfield 23, 3), (137, .iload_n 2, 1), (138, .iconst 2, 1), (139, .iadd, 1), (140, .iaload, 1), (141, .ifCond .ge 5, 3), (144, .iconst 0, 1), (145, .ireturn, 1), (146, .aload_n 0, 1), (147, .getfield 23, 3), (150, .iload_n 2, 1), (151, .iconst 3, 1), (152, .iadd, 1), (153, .iconst 0, 1), (154, .iastore, 1), (155, .aload_n 0, 1), (156, .bipush 111, 2), (158, .invokevirtual 165, 3), (161, .ifCond .eq 49, 3), (164, .aload_n 0, 1), (165, .getfield 23, 3), (168, .iload_n 2, 1), (169, .iconst 3, 1), (170, .iadd, 1), (171, .aload_n 0, 1), (172, .invokevirtual 153, 3), (175, .bipush 48, 2), (177, .isub, 1), (178, .iastore, 1), (179, .aload_n 0, 1), (180, .getfield 23, 3), (183, .iload_n 2, 1), (184, .iconst 3, 1), (185, .iadd, 1), (186, .iaload, 1), (187, .i2l, 1), (188, .lconst 0, 1), (189, .ldc2_w 96, 3), (192, .invokestatic 92, 3), (195, .ifCond .ne 5, 3), (198, .iconst 0, 1), (199, .ireturn, 1), (200, .aload_n 0, 1), (201, .dup, 1), (202, .getfield 150, 3), (205, .iconst 1, 1), (206, .iadd, 1), (207, .putfield 150, 3), (210, .aload_n 0, 1), (211, .getfield 23, 3), (214, .iload_n 2, 1), (215, .iconst 4, 1), (216, .iadd, 1), (217, .aload_n 0, 1), (218, .bipush 47, 2), (220, .invokevirtual 165, 3), (223, .ifCond .eq 11, 3), (226, .aload_n 0, 1), (227, .iload_n 1, 1), (228, .invokevirtual 168, 3), (231, .goto 4, 3), (234, .iconst 0, 1), (235, .iastore, 1), (236, .aload_n 0, 1), (237, .getfield 23, 3), (240, .iload_n 2, 1), (241, .iconst 4, 1), (242, .iadd, 1), (243, .iaload, 1), (244, .ifCond .ge 5, 3), (247, .iconst 0, 1), (248, .ireturn, 1), (249, .aload_n 0, 1), (250, .invokevirtual 153, 3), (253, .bipush 42, 2), (255, .if_icmp .ne 45, 3), (258, .aload_n 0, 1), (259, .getfield 23, 3), (262, .iload_n 2, 1), (263, .iconst 4, 1), (264, .iadd, 1), (265, .iaload, 1), (266, .aload_n 0, 1), (267, .getfield 171, 3), (270, .iconst (-1), 1), (271, .ixor, 1), (272, .iand, 1), (273, .ifCond .eq 5, 3), (276, .iconst 0, 1), (277, .ireturn, 1), (278, .aload_n 0, 1), (279, .dup, 1), (280, .getfield 171, 3), (283, .iconst 1, 1), (284, .iload_n 1, 1), (285, .ishl, 1), (286, .ior, 1), (287, .putfield 171, 3), (290, .aload_n 0, 1), (291, .dup, 1), (292, .getfield 150, 3), (295, .iconst 1, 1), (296, .iadd, 1), (297, .putfield 150, 3), (300, .iconst 1, 1), (301, .ireturn, 1)]
def eCd147 : List (Nat × Instr × Nat) := [(0, .aload_n 0, 1), (1, .getfield 150, 3), (4, .aload_n 0, 1), (5, .getfield 147, 3), (8, .if_icmp .ge 30, 3), (11, .aload_n 0, 1), (12, .getfield 20, 3), (15, .aload_n 0, 1), (16, .getfield 150, 3), (19, .iaload, 1), (20, .bipush 32, 2), (22, .if_icmp .ne 16, 3), (25, .aload_n 0, 1), (26, .dup, 1), (27, .getfield 150, 3), (30, .iconst 1, 1), (31, .iadd, 1), (32, .putfield 150, 3), (35, .goto (-35), 3), (38, .aload_n 0, 1), (39, .getfield 150, 3), (42, .aload_n 0, 1), (43, .getfield 147, 3), (46, .if_icmp .ge 15, 3), (49, .aload_n 0, 1), (50, .getfield 20, 3), (53, .aload_n 0, 1), (54, .getfield 150, 3), (57, .iaload, 1), (58, .goto 4, 3), (61, .iconst (-1), 1), (62, .ireturn, 1)]
def eCd148 : List (Nat × Instr × Nat) := [(0, .aload_n 0, 1), (1, .invokevirtual 153, 3), (4, .pop, 1), (5, .aload_n 0, 1), (6, .getfield 150, 3), (9, .istore_n 3, 1), (10, .iconst 0, 1), (11, .istore 4, 2), (13, .aload_n 0, 1), (14, .getfield 150, 3), (17, .aload_n 0, 1), (18, .getfield 147, 3), (21, .if_icmp .ge 71, 3), (24, .aload_n 0, 1), (25, .getfield 20, 3), (28, .aload_n 0, 1), (29, .getfield 150, 3), (32, .iaload, 1), (33, .i2l, 1), (34, .ldc2_w 157, 3), (37, .ldc2_w 159, 3), (40, .invokestatic 92, 3), (43, .ifCond .eq 49, 3), (46, .iload 4, 2), (48, .sipush 999, 3), (51, .if_icmp .le 8, 3), (54, .iload 4, 2), (56, .goto 21, 3), (59, .bipush 10, 2), (61, .iload 4, 2), (63, .imul, 1), (64, .aload_n 0, 1), (65, .getfield 20, 3), (68, .aload_n 0, 1), (69, .getfield 150, 3), (72, .iaload, 1), (73, .iadd, 1), (74, .bipush 48, 2), (76, .isub, 1), (77, .istore 4, 2), (79, .aload_n 0, 1), (80, .dup, 1), (81, .getfield 150, 3), (84, .iconst 1, 1), (85, .iadd, 1), (86, .putfield 150, 3), (89, .goto (-76), 3), (92, .aload_n 0, 1), (93, .getfield 150, 3), (96, .iload_n 3, 1), (97, .if_icmp .ne 5, 3), (100, .iconst (-1), 1), (101, .ireturn, 1), (102, .iload 4, 2), (104, .i2l, 1), (105, .iload_n 1, 1), (106, .i2l, 1), (107, .iload_n 2, 1), (108, .i2l, 1), (109, .invokestatic 92, 3), (112, .ifCond .ne 10, 3), (115, .aload_n 0, 1), (116, .iload_n 3, 1), (117, .putfield 150, 3), (120, .iconst (-1), 1), (121, .ireturn, 1), (122, .iload 4, 2), (124, .ireturn, 1)]
def eCd149 : List (Nat × Instr × Nat) := [(0, .aload_n 0, 1), (1, .invokevirtual 153, 3), (4, .iload_n 1, 1), (5, .if_icmp .ne 7, 3), (8, .iconst 1, 1), (9, .goto 4, 3), (12, .iconst 0, 1), (13, .istore_n 2, 1), (14, .aload_n 0, 1), (15, .dup, 1), (16, .getfield 150, 3), (19, .iload_n 2, 1), (20, .ifCond .eq 7, 3), (23, .iconst 1, 1), (24, .goto 4, 3), (27, .iconst 0, 1), (28, .iadd, 1), (29, .putfield 150, 3), (32, .iload_n 2, 1), (33, .ireturn, 1)]
def eCd150 : List (Nat × Instr × Nat) := [(0, .iconst 0, 1), (1, .istore_n 2, 1), (2, .aload_n 0, 1), (3, .invokevirtual 153, 3), (6, .i2l, 1), (7, .ldc2_w 157, 3), (10, .ldc2_w 159, 3), (13, .invokestatic 92, 3), (16, .ifCond .ne 7, 3), (19, .iload_n 2, 1), (20, .ifCond .ne 53, 3), (23, .aload_n 0, 1), (24, .invokevirtual 153, 3), (27, .bipush 48, 2), (29, .isub, 1), (30, .istore_n 3, 1), (31, .iload_n 3, 1), (32, .i2l, 1), (33, .lconst 0, 1), (34, .iload_n 1, 1), (35, .iconst 1, 1), (36, .isub, 1), (37, .i2l, 1), (38, .invokestatic 92, 3), (41, .ifCond .eq 11, 3), (44, .iload_n 2, 1), (45, .iload_n 3, 1), (46, .invokestatic 113, 3), (49, .ifCond .eq 5, 3), (52, .iconst (-1), 1), (53, .ireturn, 1), (54, .iload_n 2, 1), (55, .iconst 1, 1), (56, .iload_n 3, 1), (57, .ishl, 1), (58, .ior, 1), (59, .istore_n 2, 1), (60, .aload_n 0, 1), (61, .dup, 1), (62, .getfield 150, 3), (65, .iconst 1, 1), (66, .iadd, 1), (67, .putfield 150, 3), (70, .goto (-68), 3), (73, .iload_n 2, 1), (74, .ireturn, 1)]
def eCd151 : List (Nat × Instr × Nat) := [(0, .aload_n 0, 1), (1, .iconst 0, 1), (2, .invokevirtual 180, 3), (5, .istore_n 1, 1), (6, .iload_n 1, 1), (7, .ifCond .ne 8, 3), (10, .aload_n 0, 1), (11, .invokevirtual 153, 3), (14, .pop, 1), (15, .aload_n 0, 1), (16, .iconst 0, 1), (17, .putfield 147, 3), (20, .iload_n 1, 1), (21, .ifCond .ne 11, 3), (24, .bipush (-20), 2), (26, .aload_n 0, 1), (27, .getfield 150, 3), (30, .isub, 1), (31, .ireturn, 1), (32, .aload_n 0, 1), (33, .aload_n 0, 1), (34, .getfield 177, 3), (37, .putfield 121, 3), (40, .iconst 0, 1), (41, .istore_n 2, 1), (42, .iload_n 2, 1), (43, .aload_n 0, 1), (44, .getfield 177, 3), (47, .if_icmp .ge 21, 3), (50, .aload_n 0, 1), (51, .getfield 17, 3), (54, .iload_n 2, 1), (55, .aload_n 0, 1), (56, .getfield 23, 3), (59, .iload_n 2, 1), (60, .iaload, 1), (61, .iastore, 1), (62, .iinc 2 1, 3), (65, .goto (-23), 3), (68, .aload_n 0, 1), (69, .getfield 121, 3), (72, .ireturn, 1)]
def eCd152 : List (Nat × Instr × Nat) := [(0, .aload_n 0, 1), (1, .aload_n 0, 1), (2, .getfield 110, 3), (5, .iload_n 1, 1), (6, .i2l, 1), (7, .iload_n 2, 1), (8, .i2l, 1), (9, .invokevirtual 197, 3), (12, .ifCond .ne 7, 3), (15, .iconst (-1), 1), (16, .goto 25, 3), (19, .aload_n 0, 1), (20, .aload_n 0, 1), (21, .getfield 110, 3), (24, .aload_n 0, 1), (25, .getfield 126, 3), (28, .iload_n 1, 1), (29, .iload_n 2, 1), (30, .invokevirtual 201, 3), (33, .ifCond .eq 7, 3), (36, .iconst 1, 1), (37, .goto 4, 3), (40, .iconst 0, 1), (41, .ireturn, 1)]
def eCd153 : List (Nat × Instr × Nat) := [(0, .aload_n 0, 1), (1, .lload_n 2, 1), (2, .invokevirtual 100, 3), (5, .ifCond .eq 37, 3), (8, .aload_n 0, 1), (9, .lload 4, 2), (11, .invokevirtual 100, 3), (14, .ifCond .eq 28, 3), (17, .lload_n 2, 1), (18, .iload_n 1, 1), (19, .iconst (-1), 1), (20, .ixor, 1), (21, .i2l, 1), (22, .land, 1), (23, .lconst 0, 1), (24, .lcmp, 1), (25, .ifCond .ne 17, 3), (28, .lload 4, 2), (30, .iload_n 1, 1), (31, .i2l, 1), (32, .land, 1), (33, .lconst 0, 1), (34, .lcmp, 1), (35, .ifCond .ne 7, 3), (38, .iconst 1, 1), (39, .goto 4, 3), (42, .iconst 0, 1), (43, .ireturn, 1)]
def eCd154 : List (Nat × Instr × Nat) := [(0, .aload_n 0, 1), (1, .iload_n 1, 1), (2, .iload_n 3, 1), (3, .iload 4, 2), (5, .invokevirtual 190, 3), (8, .ifCond .eq 19, 3), (11, .iload_n 2, 1), (12, .aload_n 0, 1), (13, .iload_n 3, 1), (14, .iload 4, 2), (16, .invokevirtual 194, 3), (19, .iadd, 1), (20, .ifCond .lt 7, 3), (23, .iconst 1, 1), (24, .goto 4, 3), (27, .iconst 0, 1), (28, .ireturn, 1)]
def eCd155 : List (Nat × Instr × Nat) := [(0, .iload_n 1, 1), (1, .iload_n 2, 1), (2, .iconst (-1), 1), (3, .ixor, 1), (4, .iand, 1), (5, .iload_n 3, 1), (6, .ior, 1), (7, .istore 4, 2), (9, .aload_n 0, 1), (10, .iload_n 2, 1), (11, .invokevirtual 132, 3), (14, .aload_n 0, 1), (15, .iload_n 3, 1), (16, .invokevirtual 132, 3), (19, .iadd, 1), (20, .aload_n 0, 1), (21, .getfield 13, 3), (24, .if_icmp .gt 16, 3), (27, .aload_n 0, 1), (28, .iload 4, 2), (30, .invokevirtual 117, 3), (33, .ifCond .eq 7, 3), (36, .iconst 1, 1), (37, .goto 4, 3), (40, .iconst 0, 1), (41, .istore 5, 2), (43, .iconst 0, 1), (44, .istore 6, 2), (46, .iload 6, 2), (48, .aload_n 0, 1), (49, .getfield 121, 3), (52, .if_icmp .ge 36, 3), (55, .iload 5, 2), (57, .ifCond .eq 31, 3), (60, .aload_n 0, 1), (61, .getfield 17, 3), (64, .iload 6, 2), (66, .iaload, 1), (67, .iload_n 1, 1), (68, .iand, 1), (69, .iload 4, 2), (71, .iand, 1), (72, .ifCond .eq 7, 3), (75, .iconst 1, 1), (76, .goto 4, 3), (79, .iconst 0, 1), (80, .istore 5, 2), (82, .iinc 6 1, 3), (85, .goto (-39), 3), (88, .iload 5, 2), (90, .ireturn, 1)]
def eCd156 : List (Nat × Instr × Nat) := [(0, .iconst 0, 1), (1, .istore_n 3, 1), (2, .iconst 0, 1), (3, .istore 4, 2), (5, .iload 4, 2), (7, .aload_n 0, 1), (8, .getfield 89, 3), (11, .if_icmp .ge 51, 3), (14, .iload_n 3, 1), (15, .iload_n 1, 1), (16, .iload 4, 2), (18, .invokestatic 113, 3), (21, .ifCond .eq 12, 3), (24, .aload_n 0, 1), (25, .iload 4, 2), (27, .invokevirtual 184, 3), (30, .goto 4, 3), (33, .iconst 0, 1), (34, .iload_n 2, 1), (35, .iload 4, 2), (37, .invokestatic 113, 3), (40, .ifCond .eq 12, 3), (43, .aload_n 0, 1), (44, .iload 4, 2), (46, .invokevirtual 187, 3), (49, .goto 4, 3), (52, .iconst 0, 1), (53, .isub, 1), (54, .iadd, 1), (55, .istore_n 3, 1), (56, .iinc 4 1, 3), (59, .goto (-54), 3), (62, .iload_n 3, 1), (63, .ireturn, 1)]
def eCd157 : List (Nat × Instr × Nat) := [(0, .aload_n 0, 1), (1, .getfield 7, 3), (4, .iconst 5, 1), (5, .iload_n 1, 1), (6, .imul, 1), (7, .iconst 1, 1), (8, .iadd, 1), (9, .iaload, 1), (10, .istore_n 2, 1), (11, .aload_n 0, 1), (12, .getfield 7, 3), (15, .iconst 5, 1), (16, .iload_n 1, 1), (17, .imul, 1), (18, .iaload, 1), (19, .istore_n 3, 1), (20, .iload_n 3, 1), (21, .iconst 1, 1), (22, .if_icmp .ne 9, 3), (25, .iload_n 2, 1), (26, .iconst 1, 1), (27, .isub, 1), (28, .goto 25, 3), (31, .iload_n 3, 1), (32, .iconst 2, 1), (33, .if_icmp .ne 8, 3), (36, .iload_n 2, 1), (37, .ineg, 1), (38, .goto 15, 3), (41, .iload_n 3, 1), (42, .iconst 3, 1), (43, .if_icmp .ne 9, 3), (46, .iload_n 2, 1), (47, .iconst 2, 1), (48, .idiv, 1), (49, .goto 4, 3), (52, .iload_n 2, 1), (53, .ireturn, 1)]
def eCd158 : List (Nat × Instr × Nat) := [(0, .aload_n 0, 1), (1, .getfield 7, 3), (4, .iconst 5, 1), (5, .iload_n 1, 1), (6, .imul, 1), (7, .iaload, 1), (8, .iconst 2, 1), (9, .if_icmp .ne 17, 3), (12, .aload_n 0, 1), (13, .getfield 7, 3), (16, .iconst 5, 1), (17, .iload_n 1, 1), (18, .imul, 1), (19, .iconst 1, 1), (20, .iadd, 1), (21, .iaload, 1), (22, .ineg, 1), (23, .goto 13, 3), (26, .aload_n 0, 1), (27, .getfield 7, 3), (30, .iconst 5, 1), (31, .iload_n 1, 1), (32, .imul, 1), (33, .iconst 1, 1), (34, .iadd, 1), (35, .iaload, 1), (36, .ireturn, 1)]
def eCd159 : List (Nat × Instr × Nat) := [(0, .aload_n 0, 1), (1, .aload_n 0, 1), (2, .getfield 110, 3), (5, .iload_n 1, 1), (6, .i2l, 1), (7, .iload_n 2, 1), (8, .i2l, 1), (9, .invokevirtual 197, 3), (12, .ifCond .ne 5, 3), (15, .iconst (-1), 1), (16, .ireturn, 1), (17, .aload_n 0, 1), (18, .aload_n 0, 1), (19, .getfield 110, 3), (22, .aload_n 0, 1), (23, .getfield 126, 3), (26, .iload_n 1, 1), (27, .iload_n 2, 1), (28, .invokevirtual 201, 3), (31, .ifCond .ne 6, 3), (34, .bipush (-2), 2), (36, .ireturn, 1), (37, .aload_n 0, 1), (38, .iload_n 1, 1), (39, .iload_n 2, 1), (40, .invokevirtual 208, 3), (43, .aload_n 0, 1), (44, .getfield 126, 3), (47, .ireturn, 1)]
def eCd160 : List (Nat × Instr × Nat) := [(0, .aload_n 0, 1), (1, .aload_n 0, 1), (2, .getfield 126, 3), (5, .aload_n 0, 1), (6, .iload_n 1, 1), (7, .iload_n 2, 1), (8, .invokevirtual 194, 3), (11, .iadd, 1), (12, .invokestatic 205, 3), (15, .putfield 126, 3), (18, .aload_n 0, 1), (19, .aload_n 0, 1), (20, .getfield 110, 3), (23, .iload_n 1, 1), (24, .iconst (-1), 1), (25, .ixor, 1), (26, .iand, 1), (27, .iload_n 2, 1), (28, .ior, 1), (29, .putfield 110, 3), (32, .return_, 1)]
def eCd161 : List (Nat × Instr × Nat) := [(0, .iload_n 0, 1), (1, .sipush 999, 3), (4, .if_icmp .le 9, 3), (7, .sipush 999, 3), (10, .goto 4, 3), (13, .iload_n 0, 1), (14, .ireturn, 1)]
def eCd162 : List (Nat × Instr × Nat) := [(0, .iload_n 1, 1), (1, .i2l, 1), (2, .ldc2_w 223, 3), (5, .ldc2_w 141, 3), (8, .invokestatic 92, 3), (11, .ifCond .ne 5, 3), (14, .iconst (-1), 1), (15, .ireturn, 1), (16, .aload_n 0, 1), (17, .invokevirtual 225, 3), (20, .istore_n 2, 1), (21, .iload_n 2, 1), (22, .ifCond .lt 8, 3), (25, .iload_n 1, 1), (26, .iload_n 2, 1), (27, .if_icmp .lt 8, 3), (30, .bipush (-4), 2), (32, .goto 17, 3), (35, .iload_n 1, 1), (36, .ifCond .ge 7, 3), (39, .iload_n 2, 1), (40, .goto 9, 3), (43, .aload_n 0, 1), (44, .getfield 46, 3), (47, .iload_n 1, 1), (48, .iaload, 1), (49, .ireturn, 1)]
def eCd163 : List (Nat × Instr × Nat) := [(0, .aload_n 0, 1), (1, .sipush 255, 3), (4, .aload_n 0, 1), (5, .getfield 126, 3), (8, .invokevirtual 220, 3), (11, .istore_n 1, 1), (12, .aload_n 0, 1), (13, .getfield 110, 3), (16, .istore_n 2, 1), (17, .aload_n 0, 1), (18, .getfield 126, 3), (21, .istore_n 3, 1), (22, .iconst 0, 1), (23, .istore 4, 2), (25, .iload 4, 2), (27, .iload_n 1, 1), (28, .if_icmp .ge 100, 3), (31, .sipush 256, 3), (34, .iload_n 1, 1), (35, .iload 4, 2), (37, .isub, 1), (38, .iconst 1, 1), (39, .isub, 1), (40, .imul, 1), (41, .istore 5, 2), (43, .iconst 0, 1), (44, .istore 6, 2), (46, .aload_n 0, 1), (47, .getfield 40, 3), (50, .iload 5, 2), (52, .iload 6, 2), (54, .iadd, 1), (55, .iaload, 1), (56, .sipush 999, 3), (59, .if_icmp .gt 24, 3), (62, .aload_n 0, 1), (63, .iload_n 2, 1), (64, .iload 6, 2), (66, .aload_n 0, 1), (67, .getfield 40, 3), (70, .iload 5, 2), (72, .iload 6, 2), (74, .iadd, 1), (75, .iaload, 1), (76, .invokevirtual 216, 3), (79, .iload_n 3, 1), (80, .if_icmp .le 9, 3), (83, .iinc 6 1, 3), (86, .goto (-40), 3), (89, .iload_n 3, 1), (90, .aload_n 0, 1), (91, .iload_n 2, 1), (92, .iload 6, 2), (94, .iconst (-1), 1), (95, .ixor, 1), (96, .iand, 1), (97, .iload 6, 2), (99, .iload_n 2, 1), (100, .iconst (-1), 1), (101, .ixor, 1), (102, .iand, 1), (103, .invokevirtual 194, 3), (106, .iadd, 1), (107, .invokestatic 205, 3), (110, .istore_n 3, 1), (111, .iload 6, 2), (113, .istore_n 2, 1), (114, .aload_n 0, 1), (115, .getfield 46, 3), (118, .iload 4, 2), (120, .iload_n 2, 1), (121, .iastore, 1), (122, .iinc 4 1, 3), (125, .goto (-100), 3), (128, .iload_n 1, 1), (129, .ireturn, 1)]
def eCd164 : List (Nat × Instr × Nat) := [(0, .aload_n 0, 1), (1, .invokevirtual 213, 3), (4, .iconst 0, 1), (5, .istore_n 3, 1), (6, .iload_n 3, 1), (7, .iconst 1, 1), (8, .aload_n 0, 1), (9, .getfield 89, 3), (12, .ishl, 1), (13, .if_icmp .ge 41, 3), (16, .aload_n 0, 1), (17, .getfield 40, 3), (20, .iload_n 3, 1), (21, .iload_n 3, 1), (22, .aload_n 0, 1), (23, .getfield 129, 3), (26, .if_icmp .ne 7, 3), (29, .iconst 0, 1), (30, .goto 5, 3), (33, .ldc 212, 2), (35, .iastore, 1), (36, .aload_n 0, 1), (37, .getfield 43, 3), (40, .iload_n 3, 1), (41, .aload_n 0, 1), (42, .getfield 40, 3), (45, .iload_n 3, 1), (46, .iaload, 1), (47, .iastore, 1), (48, .iinc 3 1, 3), (51, .goto (-45), 3), (54, .aload_n 0, 1), (55, .getfield 43, 3), (58, .aload_n 0, 1), (59, .getfield 110, 3), (62, .iaload, 1), (63, .iload_n 2, 1), (64, .if_icmp .gt 5, 3), (67, .iconst 0, 1), (68, .ireturn, 1), (69, .iconst 1, 1), (70, .istore_n 3, 1), (71, .iload_n 3, 1), (72, .sipush 256, 3), (75, .if_icmp .ge 229, 3), (78, .iconst 0, 1), (79, .istore 4, 2), (81, .iconst 0, 1), (82, .istore 5, 2), (84, .iload 5, 2), (86, .iconst 1, 1), (87, .aload_n 0, 1), (88, .getfield 89, 3), (91, .ishl, 1), (92, .if_icmp .ge 177, 3), (95, .ldc 212, 2), (97, .istore 6, 2), (99, .iconst 0, 1), (100, .istore 7, 2), (102, .iload 7, 2), (104, .iconst 1, 1), (105, .aload_n 0, 1), (106, .getfield 89, 3), (109, .ishl, 1), (110, .if_icmp .ge 83, 3), (113, .aload_n 0, 1), (114, .getfield 40, 3), (117, .sipush 256, 3), (120, .iload_n 3, 1), (121, .iconst 1, 1), (122, .isub, 1), (123, .imul, 1), (124, .iload 7, 2), (126, .iadd, 1), (127, .iaload, 1), (128, .sipush 999, 3), (131, .if_icmp .gt 56, 3), (134, .iload 5, 2), (136, .iload 7, 2), (138, .ixor, 1), (139, .iload_n 1, 1), (140, .iconst (-1), 1), (141, .ixor, 1), (142, .iand, 1), (143, .ifCond .ne 44, 3), (146, .aload_n 0, 1), (147, .iload 5, 2), (149, .iload 7, 2), (151, .aload_n 0, 1), (152, .getfield 40, 3), (155, .sipush 256, 3), (158, .iload_n 3, 1), (159, .iconst 1, 1), (160, .isub, 1), (161, .imul, 1), (162, .iload 7, 2), (164, .iadd, 1), (165, .iaload, 1), (166, .invokevirtual 216, 3), (169, .istore 8, 2), (171, .iload 8, 2), (173, .iload 6, 2), (175, .if_icmp .ge 8, 3), (178, .iload 8, 2), (180, .goto 5, 3), (183, .iload 6, 2), (185, .istore 6, 2), (187, .iinc 7 1, 3), (190, .goto (-88), 3), (193, .aload_n 0, 1), (194, .getfield 40, 3), (197, .sipush 256, 3), (200, .iload_n 3, 1), (201, .imul, 1), (202, .iload 5, 2), (204, .iadd, 1), (205, .iload 6, 2), (207, .iastore, 1), (208, .iload 4, 2), (210, .ifCond .ne 15, 3), (213, .iload 6, 2), (215, .aload_n 0, 1), (216, .getfield 43, 3), (219, .iload 5, 2), (221, .iaload, 1), (222, .if_icmp .ge 7, 3), (225, .iconst 1, 1), (226, .goto 4, 3), (229, .iconst 0, 1), (230, .istore 4, 2), (232, .aload_n 0, 1), (233, .getfield 43, 3), (236, .iload 5, 2), (238, .iload 6, 2), (240, .aload_n 0, 1), (241, .getfield 43, 3), (244, .iload 5, 2), (246, .iaload, 1), (247, .if_icmp .ge 8, 3), (250, .iload 6, 2), (252, .goto 10, 3), (255, .aload_n 0, 1), (256, .getfield 43, 3), (259, .iload 5, 2), (261, .iaload, 1), (262, .iastore, 1), (263, .iinc 5 1, 3), (266, .goto (-182), 3), (269, .aload_n 0, 1), (270, .getfield 40, 3), (273, .sipush 256, 3), (276, .iload_n 3, 1), (277, .imul, 1), (278, .aload_n 0, 1), (279, .getfield 110, 3), (282, .iadd, 1), (283, .iaload, 1), (284, .iload_n 2, 1), (285, .if_icmp .gt 5, 3), (288, .iload_n 3, 1), (289, .ireturn, 1), (290, .iload 4, 2), (292, .ifCond .ne 6, 3), (295, .bipush (-4), 2), (297, .ireturn, 1), (298, .iinc 3 1, 3), (301, .goto (-230), 3), (304, .bipush (-4), 2), (306, .ireturn, 1)]
def eCd165 : List (Nat × Instr × Nat) := [(0, .iconst 0, 1), (1, .istore_n 1, 1), (2, .iload_n 1, 1), (3, .iconst 1, 1), (4, .aload_n 0, 1), (5, .getfield 89, 3), (8, .ishl, 1), (9, .if_icmp .ge 56, 3), (12, .aload_n 0, 1), (13, .getfield 26, 3), (16, .iload_n 1, 1), (17, .aload_n 0, 1), (18, .iload_n 1, 1), (19, .invokevirtual 132, 3), (22, .iastore, 1), (23, .aload_n 0, 1), (24, .getfield 29, 3), (27, .iload_n 1, 1), (28, .aload_n 0, 1), (29, .iload_n 1, 1), (30, .invokevirtual 117, 3), (33, .bastore, 1), (34, .aload_n 0, 1), (35, .getfield 33, 3), (38, .iload_n 1, 1), (39, .aload_n 0, 1), (40, .iload_n 1, 1), (41, .iconst 0, 1), (42, .invokevirtual 194, 3), (45, .iastore, 1), (46, .aload_n 0, 1), (47, .getfield 36, 3), (50, .iload_n 1, 1), (51, .aload_n 0, 1), (52, .iconst 0, 1), (53, .iload_n 1, 1), (54, .invokevirtual 194, 3), (57, .ineg, 1), (58, .iastore, 1), (59, .iinc 1 1, 3), (62, .goto (-60), 3), (65, .return_, 1)]
def eCd166 : List (Nat × Instr × Nat) := [(0, .iload_n 1, 1), (1, .iload_n 2, 1), (2, .iconst (-1), 1), (3, .ixor, 1), (4, .iand, 1), (5, .istore 4, 2), (7, .iload_n 2, 1), (8, .iload_n 1, 1), (9, .iconst (-1), 1), (10, .ixor, 1), (11, .iand, 1), (12, .istore 5, 2), (14, .iload_n 3, 1), (15, .sipush 999, 3), (18, .if_icmp .gt 34, 3), (21, .aload_n 0, 1), (22, .getfield 26, 3), (25, .iload 4, 2), (27, .iaload, 1), (28, .aload_n 0, 1), (29, .getfield 26, 3), (32, .iload 5, 2), (34, .iaload, 1), (35, .iadd, 1), (36, .aload_n 0, 1), (37, .getfield 13, 3), (40, .if_icmp .gt 12, 3), (43, .aload_n 0, 1), (44, .getfield 29, 3), (47, .iload_n 2, 1), (48, .baload, 1), (49, .ifCond .ne 6, 3), (52, .ldc 212, 2), (54, .ireturn, 1), (55, .iconst 0, 1), (56, .istore 6, 2), (58, .iload 6, 2), (60, .aload_n 0, 1), (61, .getfield 121, 3), (64, .if_icmp .ge 26, 3), (67, .aload_n 0, 1), (68, .getfield 17, 3), (71, .iload 6, 2), (73, .iaload, 1), (74, .iload_n 1, 1), (75, .iand, 1), (76, .iload_n 2, 1), (77, .iand, 1), (78, .ifCond .ne 6, 3), (81, .ldc 212, 2), (83, .ireturn, 1), (84, .iinc 6 1, 3), (87, .goto (-29), 3), (90, .aload_n 0, 1), (91, .getfield 33, 3), (94, .iload 4, 2), (96, .iaload, 1), (97, .aload_n 0, 1), (98, .getfield 36, 3), (101, .iload 5, 2), (103, .iaload, 1), (104, .isub, 1), (105, .istore 6, 2), (107, .iload_n 3, 1), (108, .iload 6, 2), (110, .isub, 1), (111, .iload 6, 2), (113, .ineg, 1), (114, .if_icmp .le 10, 3), (117, .iload_n 3, 1), (118, .iload 6, 2), (120, .isub, 1), (121, .goto 6, 3), (124, .iload 6, 2), (126, .ineg, 1), (127, .istore 7, 2), (129, .iload 7, 2), (131, .sipush 999, 3), (134, .if_icmp .le 8, 3), (137, .ldc 212, 2), (139, .goto 14, 3), (142, .iload 7, 2), (144, .ifCond .ge 7, 3), (147, .iconst 0, 1), (148, .goto 5, 3), (151, .iload 7, 2), (153, .ireturn, 1)]
def eCd167 : List (Nat × Instr × Nat) := [(0, .aload_n 0, 1), (1, .sipush 255, 3), (4, .iconst (-1), 1), (5, .invokevirtual 220, 3), (8, .istore_n 1, 1), (9, .aload_n 0, 1), (10, .getfield 43, 3), (13, .aload_n 0, 1), (14, .getfield 110, 3), (17, .iaload, 1), (18, .istore_n 2, 1), (19, .iload_n 1, 1), (20, .ifCond .ge 10, 3), (23, .iload_n 2, 1), (24, .sipush 999, 3), (27, .if_icmp .le 8, 3), (30, .bipush (-4), 2), (32, .goto 21, 3), (35, .iload_n 2, 1), (36, .aload_n 0, 1), (37, .getfield 126, 3), (40, .if_icmp .le 12, 3), (43, .iload_n 2, 1), (44, .aload_n 0, 1), (45, .getfield 126, 3), (48, .isub, 1), (49, .goto 4, 3), (52, .iconst 0, 1), (53, .ireturn, 1)]
def eCd168 : List (Nat × Instr × Nat) := [(0, .aload_n 0, 1), (1, .aload_n 0, 1), (2, .getfield 110, 3), (5, .iload_n 1, 1), (6, .i2l, 1), (7, .iload_n 2, 1), (8, .i2l, 1), (9, .invokevirtual 197, 3), (12, .ifCond .ne 5, 3), (15, .iconst (-1), 1), (16, .ireturn, 1), (17, .iconst 0, 1), (18, .istore_n 3, 1), (19, .iconst 0, 1), (20, .istore 4, 2), (22, .iload 4, 2), (24, .bipush 8, 2), (26, .if_icmp .ge 115, 3), (29, .iload 4, 2), (31, .aload_n 0, 1), (32, .getfield 89, 3), (35, .if_icmp .ge 20, 3), (38, .aload_n 0, 1), (39, .getfield 7, 3), (42, .iconst 5, 1), (43, .iload 4, 2), (45, .imul, 1), (46, .iaload, 1), (47, .iconst 2, 1), (48, .if_icmp .eq 7, 3), (51, .iconst 1, 1), (52, .goto 4, 3), (55, .iconst 0, 1), (56, .istore 5, 2), (58, .aload_n 0, 1), (59, .getfield 49, 3), (62, .iload 4, 2), (64, .iload 5, 2), (66, .ifCond .eq 21, 3), (69, .iload_n 1, 1), (70, .iload 4, 2), (72, .invokestatic 113, 3), (75, .ifCond .eq 12, 3), (78, .aload_n 0, 1), (79, .iload 4, 2), (81, .invokevirtual 184, 3), (84, .goto 4, 3), (87, .iconst 0, 1), (88, .iastore, 1), (89, .aload_n 0, 1), (90, .getfield 52, 3), (93, .iload 4, 2), (95, .iload 5, 2), (97, .ifCond .eq 26, 3), (100, .iload_n 2, 1), (101, .iload 4, 2), (103, .invokestatic 113, 3), (106, .ifCond .eq 17, 3), (109, .aload_n 0, 1), (110, .getfield 7, 3), (113, .iconst 5, 1), (114, .iload 4, 2), (116, .imul, 1), (117, .iconst 1, 1), (118, .iadd, 1), (119, .iaload, 1), (120, .goto 4, 3), (123, .iconst 0, 1), (124, .iastore, 1), (125, .iload_n 3, 1), (126, .aload_n 0, 1), (127, .getfield 52, 3), (130, .iload 4, 2), (132, .iaload, 1), (133, .iadd, 1), (134, .istore_n 3, 1), (135, .iinc 4 1, 3), (138, .goto (-116), 3), (141, .aload_n 0, 1), (142, .getfield 49, 3), (145, .bipush 8, 2), (147, .aload_n 0, 1), (148, .getfield 126, 3), (151, .iastore, 1), (152, .iconst 0, 1), (153, .istore 4, 2), (155, .iload 4, 2), (157, .bipush 72, 2), (159, .if_icmp .ge 17, 3), (162, .aload_n 0, 1), (163, .getfield 55, 3), (166, .iload 4, 2), (168, .iconst 0, 1), (169, .iastore, 1), (170, .iinc 4 1, 3), (173, .goto (-18), 3), (176, .iconst 0, 1), (177, .istore 4, 2), (179, .iload_n 3, 1), (180, .ifCond .le 53, 3), (183, .aload_n 0, 1), (184, .invokevirtual 237, 3), (187, .istore 5, 2), (189, .iload 5, 2), (191, .ifCond .ge 6, 3), (194, .bipush (-4), 2), (196, .ireturn, 1), (197, .aload_n 0, 1), (198, .getfield 52, 3), (201, .iload 5, 2), (203, .iaload, 1), (204, .istore 6, 2), (206, .iload 4, 2), (208, .aload_n 0, 1), (209, .iload 5, 2), (211, .invokevirtual 240, 3), (214, .iadd, 1), (215, .istore 4, 2), (217, .iload_n 3, 1), (218, .iload 6, 2), (220, .aload_n 0, 1), (221, .getfield 52, 3), (224, .iload 5, 2), (226, .iaload, 1), (227, .isub, 1), (228, .isub, 1), (229, .istore_n 3, 1), (230, .goto (-51), 3), (233, .iload 4, 2), (235, .ireturn, 1)]
def eCd169 : List (Nat × Instr × Nat) := [(0, .iconst 0, 1), (1, .istore_n 1, 1), (2, .iload_n 1, 1), (3, .bipush 17, 2), (5, .if_icmp .ge 43, 3), (8, .aload_n 0, 1), (9, .getfield 58, 3), (12, .iload_n 1, 1), (13, .iload_n 1, 1), (14, .bipush 9, 2), (16, .if_icmp .ge 16, 3), (19, .aload_n 0, 1), (20, .getfield 49, 3), (23, .iload_n 1, 1), (24, .iaload, 1), (25, .ifCond .le 7, 3), (28, .iconst 0, 1), (29, .goto 5, 3), (32, .ldc 212, 2), (34, .iastore, 1), (35, .aload_n 0, 1), (36, .getfield 61, 3), (39, .iload_n 1, 1), (40, .iconst (-1), 1), (41, .iastore, 1), (42, .iinc 1 1, 3), (45, .goto (-43), 3), (48, .iconst 1, 1), (49, .istore_n 1, 1), (50, .iload_n 1, 1), (51, .ifCond .eq 183, 3), (54, .iconst 0, 1), (55, .istore_n 1, 1), (56, .iconst 0, 1), (57, .istore_n 2, 1), (58, .iload_n 2, 1), (59, .bipush 9, 2), (61, .if_icmp .ge 170, 3), (64, .iconst 0, 1), (65, .istore_n 3, 1), (66, .iload_n 3, 1), (67, .aload_n 0, 1), (68, .getfield 89, 3), (71, .if_icmp .ge 154, 3), (74, .iload_n 2, 1), (75, .aload_n 0, 1), (76, .getfield 89, 3), (79, .if_icmp .lt 9, 3), (82, .iload_n 2, 1), (83, .bipush 8, 2), (85, .if_icmp .ne 12, 3), (88, .aload_n 0, 1), (89, .iload_n 2, 1), (90, .iload_n 3, 1), (91, .invokevirtual 231, 3), (94, .goto 5, 3), (97, .ldc 212, 2), (99, .istore 4, 2), (101, .iload 4, 2), (103, .ldc 212, 2), (105, .if_icmp .ge 45, 3), (108, .aload_n 0, 1), (109, .getfield 58, 3), (112, .iload_n 2, 1), (113, .iaload, 1), (114, .ldc 212, 2), (116, .if_icmp .ge 34, 3), (119, .aload_n 0, 1), (120, .bipush 9, 2), (122, .iload_n 3, 1), (123, .iadd, 1), (124, .aload_n 0, 1), (125, .getfield 58, 3), (128, .iload_n 2, 1), (129, .iaload, 1), (130, .iload 4, 2), (132, .iadd, 1), (133, .iload_n 2, 1), (134, .invokevirtual 234, 3), (137, .ifCond .ne 7, 3), (140, .iload_n 1, 1), (141, .ifCond .eq 7, 3), (144, .iconst 1, 1), (145, .goto 4, 3), (148, .iconst 0, 1), (149, .istore_n 1, 1), (150, .iload 4, 2), (152, .ldc 212, 2), (154, .if_icmp .ge 65, 3), (157, .aload_n 0, 1), (158, .getfield 58, 3), (161, .bipush 9, 2), (163, .iload_n 3, 1), (164, .iadd, 1), (165, .iaload, 1), (166, .ldc 212, 2), (168, .if_icmp .ge 51, 3), (171, .aload_n 0, 1), (172, .getfield 55, 3), (175, .bipush 8, 2), (177, .iload_n 2, 1), (178, .imul, 1), (179, .iload_n 3, 1), (180, .iadd, 1), (181, .iaload, 1), (182, .ifCond .le 37, 3), (185, .aload_n 0, 1), (186, .iload_n 2, 1), (187, .aload_n 0, 1), (188, .getfield 58, 3), (191, .bipush 9, 2), (193, .iload_n 3, 1), (194, .iadd, 1), (195, .iaload, 1), (196, .iload 4, 2), (198, .isub, 1), (199, .bipush 9, 2), (201, .iload_n 3, 1), (202, .iadd, 1), (203, .invokevirtual 234, 3), (206, .ifCond .ne 7, 3), (209, .iload_n 1, 1), (210, .ifCond .eq 7, 3), (213, .iconst 1, 1), (214, .goto 4, 3), (217, .iconst 0, 1), (218, .istore_n 1, 1), (219, .iinc 3 1, 3), (222, .goto (-156), 3), (225, .iinc 2 1, 3), (228, .goto (-170), 3), (231, .goto (-181), 3), (234, .bipush (-4), 2), (236, .istore_n 2, 1), (237, .iconst 0, 1), (238, .istore_n 3, 1), (239, .iload_n 3, 1), (240, .aload_n 0, 1), (241, .getfield 89, 3), (244, .if_icmp .ge 63, 3), (247, .aload_n 0, 1), (248, .getfield 52, 3), (251, .iload_n 3, 1), (252, .iaload, 1), (253, .ifCond .le 46, 3), (256, .aload_n 0, 1), (257, .getfield 58, 3), (260, .bipush 9, 2), (262, .iload_n 3, 1), (263, .iadd, 1), (264, .iaload, 1), (265, .ldc 212, 2), (267, .if_icmp .ge 32, 3), (270, .iload_n 2, 1), (271, .ifCond .lt 24, 3), (274, .aload_n 0, 1), (275, .getfield 58, 3), (278, .bipush 9, 2), (280, .iload_n 3, 1), (281, .iadd, 1), (282, .iaload, 1), (283, .aload_n 0, 1), (284, .getfield 58, 3), (287, .bipush 9, 2), (289, .iload_n 2, 1), (290, .iadd, 1), (291, .iaload, 1), (292, .if_icmp .ge 7, 3), (295, .iload_n 3, 1), (296, .goto 4, 3), (299, .iload_n 2, 1), (300, .istore_n 2, 1), (301, .iinc 3 1, 3), (304, .goto (-65), 3), (307, .iload_n 2, 1), (308, .ireturn, 1)]
def eCd170 : List (Nat × Instr × Nat) := [(0, .aload_n 0, 1), (1, .iload_n 1, 1), (2, .invokevirtual 228, 3), (5, .aload_n 0, 1), (6, .getfield 7, 3), (9, .iconst 5, 1), (10, .iload_n 2, 1), (11, .imul, 1), (12, .iconst 2, 1), (13, .iadd, 1), (14, .iaload, 1), (15, .isub, 1), (16, .istore_n 3, 1), (17, .iload_n 3, 1), (18, .ifCond .ge 8, 3), (21, .iload_n 3, 1), (22, .ineg, 1), (23, .goto 4, 3), (26, .iload_n 3, 1), (27, .ireturn, 1)]
def eCd171 : List (Nat × Instr × Nat) := [(0, .iload_n 1, 1), (1, .bipush 8, 2), (3, .if_icmp .ne 7, 3), (6, .iconst 0, 1), (7, .goto 13, 3), (10, .aload_n 0, 1), (11, .getfield 7, 3), (14, .iconst 5, 1), (15, .iload_n 1, 1), (16, .imul, 1), (17, .iconst 2, 1), (18, .iadd, 1), (19, .iaload, 1), (20, .ireturn, 1)]
def eCd172 : List (Nat × Instr × Nat) := [(0, .iload_n 2, 1), (1, .aload_n 0, 1), (2, .getfield 58, 3), (5, .iload_n 1, 1), (6, .iaload, 1), (7, .if_icmp .ge 19, 3), (10, .aload_n 0, 1), (11, .getfield 58, 3), (14, .iload_n 1, 1), (15, .iload_n 2, 1), (16, .iastore, 1), (17, .aload_n 0, 1), (18, .getfield 61, 3), (21, .iload_n 1, 1), (22, .iload_n 3, 1), (23, .iastore, 1), (24, .iconst 1, 1), (25, .ireturn, 1), (26, .iconst 0, 1), (27, .ireturn, 1)]
def eCd173 : List (Nat × Instr × Nat) := [(0, .aload_n 0, 1), (1, .getfield 52, 3), (4, .iload_n 1, 1), (5, .iaload, 1), (6, .istore_n 2, 1), (7, .bipush 9, 2), (9, .iload_n 1, 1), (10, .iadd, 1), (11, .istore_n 3, 1), (12, .aload_n 0, 1), (13, .getfield 61, 3), (16, .iload_n 3, 1), (17, .iaload, 1), (18, .ifCond .lt 63, 3), (21, .aload_n 0, 1), (22, .getfield 61, 3), (25, .iload_n 3, 1), (26, .iaload, 1), (27, .istore 4, 2), (29, .iload 4, 2), (31, .bipush 9, 2), (33, .if_icmp .lt 40, 3), (36, .aload_n 0, 1), (37, .getfield 55, 3), (40, .bipush 8, 2), (42, .iload_n 3, 1), (43, .imul, 1), (44, .iload 4, 2), (46, .iadd, 1), (47, .bipush 9, 2), (49, .isub, 1), (50, .iaload, 1), (51, .iload_n 2, 1), (52, .if_icmp .ge 21, 3), (55, .aload_n 0, 1), (56, .getfield 55, 3), (59, .bipush 8, 2), (61, .iload_n 3, 1), (62, .imul, 1), (63, .iload 4, 2), (65, .iadd, 1), (66, .bipush 9, 2), (68, .isub, 1), (69, .iaload, 1), (70, .goto 4, 3), (73, .iload_n 2, 1), (74, .istore_n 2, 1), (75, .iload 4, 2), (77, .istore_n 3, 1), (78, .goto (-66), 3), (81, .aload_n 0, 1), (82, .getfield 49, 3), (85, .iload_n 3, 1), (86, .iaload, 1), (87, .iload_n 2, 1), (88, .if_icmp .ge 12, 3), (91, .aload_n 0, 1), (92, .getfield 49, 3), (95, .iload_n 3, 1), (96, .iaload, 1), (97, .goto 4, 3), (100, .iload_n 2, 1), (101, .istore_n 2, 1), (102, .aload_n 0, 1), (103, .getfield 49, 3), (106, .iload_n 3, 1), (107, .dup2, 1), (108, .iaload, 1), (109, .iload_n 2, 1), (110, .isub, 1), (111, .iastore, 1), (112, .aload_n 0, 1), (113, .getfield 52, 3), (116, .iload_n 1, 1), (117, .dup2, 1), (118, .iaload, 1), (119, .iload_n 2, 1), (120, .isub, 1), (121, .iastore, 1), (122, .bipush 9, 2), (124, .iload_n 1, 1), (125, .iadd, 1), (126, .istore_n 3, 1), (127, .aload_n 0, 1), (128, .getfield 61, 3), (131, .iload_n 3, 1), (132, .iaload, 1), (133, .ifCond .lt 65, 3), (136, .aload_n 0, 1), (137, .getfield 61, 3), (140, .iload_n 3, 1), (141, .iaload, 1), (142, .istore 4, 2), (144, .iload 4, 2), (146, .bipush 9, 2), (148, .if_icmp .ge 25, 3), (151, .aload_n 0, 1), (152, .getfield 55, 3), (155, .bipush 8, 2), (157, .iload 4, 2), (159, .imul, 1), (160, .iload_n 3, 1), (161, .iadd, 1), (162, .bipush 9, 2), (164, .isub, 1), (165, .dup2, 1), (166, .iaload, 1), (167, .iload_n 2, 1), (168, .iadd, 1), (169, .iastore, 1), (170, .goto 22, 3), (173, .aload_n 0, 1), (174, .getfield 55, 3), (177, .bipush 8, 2), (179, .iload_n 3, 1), (180, .imul, 1), (181, .iload 4, 2), (183, .iadd, 1), (184, .bipush 9, 2), (186, .isub, 1), (187, .dup2, 1), (188, .iaload, 1), (189, .iload_n 2, 1), (190, .isub, 1), (191, .iastore, 1), (192, .iload 4, 2), (194, .istore_n 3, 1), (195, .goto (-68), 3), (198, .iload_n 2, 1), (199, .aload_n 0, 1), (200, .getfield 58, 3), (203, .bipush 9, 2), (205, .iload_n 1, 1), (206, .iadd, 1), (207, .iaload, 1), (208, .imul, 1), (209, .ireturn, 1)]
def eCd174 : List (Nat × Instr × Nat) := [(0, .iload_n 1, 1), (1, .i2l, 1), (2, .lconst 0, 1), (3, .ldc2_w 96, 3), (6, .invokestatic 92, 3), (9, .ifCond .eq 15, 3), (12, .iload_n 2, 1), (13, .i2l, 1), (14, .lconst 1, 1), (15, .ldc2_w 243, 3), (18, .invokestatic 92, 3), (21, .ifCond .ne 5, 3), (24, .iconst (-1), 1), (25, .ireturn, 1), (26, .aload_n 0, 1), (27, .iload_n 1, 1), (28, .invokevirtual 245, 3), (31, .iconst 0, 1), (32, .istore_n 3, 1), (33, .iload_n 3, 1), (34, .iload_n 2, 1), (35, .if_icmp .ge 36, 3), (38, .aload_n 0, 1), (39, .iconst 1, 1), (40, .iconst 1, 1), (41, .invokevirtual 249, 3), (44, .ifCond .ne 21, 3), (47, .aload_n 0, 1), (48, .iconst 1, 1), (49, .iconst 0, 1), (50, .invokevirtual 249, 3), (53, .ifCond .ne 12, 3), (56, .aload_n 0, 1), (57, .iconst 0, 1), (58, .iconst 1, 1), (59, .invokevirtual 249, 3), (62, .ifCond .eq 9, 3), (65, .iinc 3 1, 3), (68, .goto (-35), 3), (71, .iload_n 3, 1), (72, .ireturn, 1)]
def eCd175 : List (Nat × Instr × Nat) := [(0, .iconst 0, 1), (1, .istore_n 2, 1), (2, .iload_n 2, 1), (3, .aload_n 0, 1), (4, .getfield 89, 3), (7, .if_icmp .ge 77, 3), (10, .iload_n 2, 1), (11, .istore_n 3, 1), (12, .iload_n 1, 1), (13, .iconst 2, 1), (14, .if_icmp .ge 57, 3), (17, .iload_n 3, 1), (18, .ifCond .le 53, 3), (21, .aload_n 0, 1), (22, .getfield 7, 3), (25, .iconst 5, 1), (26, .aload_n 0, 1), (27, .getfield 64, 3), (30, .iload_n 3, 1), (31, .iconst 1, 1), (32, .isub, 1), (33, .iaload, 1), (34, .imul, 1), (35, .iconst 1, 1), (36, .iadd, 1), (37, .iaload, 1), (38, .aload_n 0, 1), (39, .getfield 7, 3), (42, .iconst 5, 1), (43, .iload_n 2, 1), (44, .imul, 1), (45, .iconst 1, 1), (46, .iadd, 1), (47, .iaload, 1), (48, .if_icmp .le 23, 3), (51, .aload_n 0, 1), (52, .getfield 64, 3), (55, .iload_n 3, 1), (56, .aload_n 0, 1), (57, .getfield 64, 3), (60, .iload_n 3, 1), (61, .iconst 1, 1), (62, .isub, 1), (63, .iaload, 1), (64, .iastore, 1), (65, .iinc 3 (-1), 3), (68, .goto (-56), 3), (71, .aload_n 0, 1), (72, .getfield 64, 3), (75, .iload_n 3, 1), (76, .iload_n 2, 1), (77, .iastore, 1), (78, .iinc 2 1, 3), (81, .goto (-79), 3), (84, .iconst 0, 1), (85, .istore_n 2, 1), (86, .iload_n 2, 1), (87, .aload_n 0, 1), (88, .getfield 89, 3), (91, .iconst 2, 1), (92, .idiv, 1), (93, .if_icmp .ge 56, 3), (96, .iload_n 1, 1), (97, .iconst 2, 1), (98, .irem, 1), (99, .iconst 1, 1), (100, .if_icmp .ne 49, 3), (103, .aload_n 0, 1), (104, .getfield 64, 3), (107, .iload_n 2, 1), (108, .iaload, 1), (109, .istore_n 3, 1), (110, .aload_n 0, 1), (111, .getfield 64, 3), (114, .iload_n 2, 1), (115, .aload_n 0, 1), (116, .getfield 64, 3), (119, .aload_n 0, 1), (120, .getfield 89, 3), (123, .iconst 1, 1), (124, .isub, 1), (125, .iload_n 2, 1), (126, .isub, 1), (127, .iaload, 1), (128, .iastore, 1), (129, .aload_n 0, 1), (130, .getfield 64, 3), (133, .aload_n 0, 1), (134, .getfield 89, 3), (137, .iconst 1, 1), (138, .isub, 1), (139, .iload_n 2, 1), (140, .isub, 1), (141, .iload_n 3, 1), (142, .iastore, 1), (143, .iinc 2 1, 3), (146, .goto (-60), 3), (149, .return_, 1)]
def eCd176 : List (Nat × Instr × Nat) := [(0, .iconst 0, 1), (1, .istore_n 3, 1), (2, .iload_n 3, 1), (3, .iload_n 1, 1), (4, .ifCond .eq 10, 3), (7, .aload_n 0, 1), (8, .getfield 89, 3), (11, .goto 4, 3), (14, .iconst 1, 1), (15, .if_icmp .ge 153, 3), (18, .iload_n 1, 1), (19, .ifCond .eq 26, 3), (22, .iconst 1, 1), (23, .aload_n 0, 1), (24, .getfield 64, 3), (27, .iload_n 3, 1), (28, .iaload, 1), (29, .ishl, 1), (30, .aload_n 0, 1), (31, .getfield 110, 3), (34, .iand, 1), (35, .aload_n 0, 1), (36, .getfield 129, 3), (39, .iconst (-1), 1), (40, .ixor, 1), (41, .iand, 1), (42, .goto 4, 3), (45, .iconst 0, 1), (46, .istore 4, 2), (48, .iconst 0, 1), (49, .istore 5, 2), (51, .iload 5, 2), (53, .iload_n 2, 1), (54, .ifCond .eq 10, 3), (57, .aload_n 0, 1), (58, .getfield 89, 3), (61, .goto 4, 3), (64, .iconst 1, 1), (65, .if_icmp .ge 97, 3), (68, .iload_n 2, 1), (69, .ifCond .eq 27, 3), (72, .iconst 1, 1), (73, .aload_n 0, 1), (74, .getfield 64, 3), (77, .iload 5, 2), (79, .iaload, 1), (80, .ishl, 1), (81, .aload_n 0, 1), (82, .getfield 129, 3), (85, .iand, 1), (86, .aload_n 0, 1), (87, .getfield 110, 3), (90, .iconst (-1), 1), (91, .ixor, 1), (92, .iand, 1), (93, .goto 4, 3), (96, .iconst 0, 1), (97, .istore 6, 2), (99, .iload 4, 2), (101, .ifCond .eq 7, 3), (104, .iconst 1, 1), (105, .goto 4, 3), (108, .iconst 0, 1), (109, .iload_n 1, 1), (110, .if_icmp .ne 46, 3), (113, .iload 6, 2), (115, .ifCond .eq 7, 3), (118, .iconst 1, 1), (119, .goto 4, 3), (122, .iconst 0, 1), (123, .iload_n 2, 1), (124, .if_icmp .ne 32, 3), (127, .aload_n 0, 1), (128, .aload_n 0, 1), (129, .getfield 110, 3), (132, .aload_n 0, 1), (133, .getfield 126, 3), (136, .iload 4, 2), (138, .iload 6, 2), (140, .invokevirtual 201, 3), (143, .ifCond .eq 13, 3), (146, .aload_n 0, 1), (147, .iload 4, 2), (149, .iload 6, 2), (151, .invokevirtual 208, 3), (154, .iconst 1, 1), (155, .ireturn, 1), (156, .iinc 5 1, 3), (159, .goto (-108), 3), (162, .iinc 3 1, 3), (165, .goto (-163), 3), (168, .iconst 0, 1), (169, .ireturn, 1)]
def eCd177 : List (Nat × Instr × Nat) := [(0, .iload_n 1, 1), (1, .i2l, 1), (2, .lconst 0, 1), (3, .ldc2_w 96, 3), (6, .invokestatic 92, 3), (9, .ifCond .eq 13, 3), (12, .iload_n 2, 1), (13, .i2l, 1), (14, .lconst 0, 1), (15, .lconst 1, 1), (16, .invokestatic 92, 3), (19, .ifCond .ne 5, 3), (22, .iconst (-1), 1), (23, .ireturn, 1), (24, .iconst 0, 1), (25, .istore_n 3, 1), (26, .iload_n 3, 1), (27, .bipush 16, 2), (29, .if_icmp .ge 36, 3), (32, .aload_n 0, 1), (33, .getfield 67, 3), (36, .iload_n 3, 1), (37, .aload_n 0, 1), (38, .aload_n 0, 1), (39, .iload_n 3, 1), (40, .invokevirtual 253, 3), (43, .aload_n 0, 1), (44, .getfield 126, 3), (47, .invokevirtual 220, 3), (50, .ifCond .lt 7, 3), (53, .iconst 1, 1), (54, .goto 4, 3), (57, .iconst 0, 1), (58, .bastore, 1), (59, .iinc 3 1, 3), (62, .goto (-36), 3), (65, .iconst 0, 1), (66, .istore_n 3, 1), (67, .iconst 0, 1), (68, .istore 4, 2), (70, .iload 4, 2), (72, .bipush 16, 2), (74, .if_icmp .ge 69, 3), (77, .iload 4, 2), (79, .iload_n 1, 1), (80, .invokestatic 113, 3), (83, .ifCond .ne 54, 3), (86, .aload_n 0, 1), (87, .getfield 67, 3), (90, .iload 4, 2), (92, .baload, 1), (93, .ifCond .ne 44, 3), (96, .aload_n 0, 1), (97, .getfield 67, 3), (100, .iload 4, 2), (102, .iconst 1, 1), (103, .iload_n 1, 1), (104, .ishl, 1), (105, .ior, 1), (106, .baload, 1), (107, .ifCond .eq 30, 3), (110, .iload 4, 2), (112, .invokestatic 256, 3), (115, .istore 5, 2), (117, .iload_n 3, 1), (118, .iload 5, 2), (120, .ifCond .eq 9, 3), (123, .iload 5, 2), (125, .iconst 3, 1), (126, .if_icmp .ne 8, 3), (129, .bipush 6, 2), (131, .goto 4, 3), (134, .iconst 2, 1), (135, .iadd, 1), (136, .istore_n 3, 1), (137, .iinc 4 1, 3), (140, .goto (-70), 3), (143, .iload_n 2, 1), (144, .ifCond .ne 7, 3), (147, .iload_n 3, 1), (148, .goto 5, 3), (151, .bipush 24, 2), (153, .iload_n 3, 1), (154, .bipush 24, 2), (156, .invokestatic 259, 3), (159, .idiv, 1), (160, .ireturn, 1)]
def eCd178 : List (Nat × Instr × Nat) := [(0, .iconst 0, 1), (1, .istore_n 2, 1), (2, .iconst 0, 1), (3, .istore_n 3, 1), (4, .iload_n 3, 1), (5, .aload_n 0, 1), (6, .getfield 89, 3), (9, .if_icmp .ge 36, 3), (12, .iload_n 2, 1), (13, .iload_n 1, 1), (14, .aload_n 0, 1), (15, .getfield 7, 3), (18, .iconst 5, 1), (19, .iload_n 3, 1), (20, .imul, 1), (21, .iconst 3, 1), (22, .iadd, 1), (23, .iaload, 1), (24, .invokestatic 113, 3), (27, .ifCond .eq 9, 3), (30, .iconst 1, 1), (31, .iload_n 3, 1), (32, .ishl, 1), (33, .goto 4, 3), (36, .iconst 0, 1), (37, .ior, 1), (38, .istore_n 2, 1), (39, .iinc 3 1, 3), (42, .goto (-38), 3), (45, .iload_n 2, 1), (46, .ireturn, 1)]
def eCd179 : List (Nat × Instr × Nat) := [(0, .iconst 0, 1), (1, .istore_n 1, 1), (2, .iload_n 0, 1), (3, .istore_n 2, 1), (4, .iload_n 2, 1), (5, .ifCond .eq 15, 3), (8, .iinc 1 1, 3), (11, .iload_n 2, 1), (12, .iload_n 2, 1), (13, .iconst 1, 1), (14, .isub, 1), (15, .iand, 1), (16, .istore_n 2, 1), (17, .goto (-13), 3), (20, .iload_n 1, 1), (21, .ireturn, 1)]
def eCd180 : List (Nat × Instr × Nat) := [(0, .iload_n 0, 1), (1, .istore_n 2, 1), (2, .iload_n 1, 1), (3, .istore_n 3, 1), (4, .iload_n 3, 1), (5, .ifCond .eq 16, 3), (8, .iload_n 2, 1), (9, .iload_n 3, 1), (10, .irem, 1), (11, .istore 4, 2), (13, .iload_n 3, 1), (14, .istore_n 2, 1), (15, .iload 4, 2), (17, .istore_n 3, 1), (18, .goto (-14), 3), (21, .iload_n 2, 1), (22, .ireturn, 1)]
def eCd181 : List (Nat × Instr × Nat) := [(0, .iconst 0, 1), (1, .istore_n 1, 1), (2, .iload_n 1, 1), (3, .bipush 40, 2), (5, .if_icmp .ge 21, 3), (8, .aload_n 0, 1), (9, .getfield 70, 3), (12, .iload_n 1, 1), (13, .aload_n 0, 1), (14, .getfield 7, 3), (17, .iload_n 1, 1), (18, .iaload, 1), (19, .iastore, 1), (20, .iinc 1 1, 3), (23, .goto (-21), 3), (26, .iconst 0, 1), (27, .istore_n 1, 1), (28, .iload_n 1, 1), (29, .iconst 4, 1), (30, .if_icmp .ge 24, 3), (33, .aload_n 0, 1), (34, .getfield 70, 3), (37, .bipush 40, 2), (39, .iload_n 1, 1), (40, .iadd, 1), (41, .aload_n 0, 1), (42, .getfield 17, 3), (45, .iload_n 1, 1), (46, .iaload, 1), (47, .iastore, 1), (48, .iinc 1 1, 3), (51, .goto (-23), 3), (54, .aload_n 0, 1), (55, .getfield 73, 3), (58, .iconst 0, 1), (59, .aload_n 0, 1), (60, .getfield 89, 3), (63, .iastore, 1), (64, .aload_n 0, 1), (65, .getfield 73, 3), (68, .iconst 1, 1), (69, .aload_n 0, 1), (70, .getfield 110, 3), (73, .iastore, 1), (74, .aload_n 0, 1), (75, .getfield 73, 3), (78, .iconst 2, 1), (79, .aload_n 0, 1), (80, .getfield 129, 3), (83, .iastore, 1), (84, .aload_n 0, 1), (85, .getfield 73, 3), (88, .iconst 3, 1), (89, .aload_n 0, 1), (90, .getfield 126, 3), (93, .iastore, 1), (94, .aload_n 0, 1), (95, .getfield 73, 3), (98, .iconst 4, 1), (99, .aload_n 0, 1), (100, .getfield 13, 3), (103, .iastore, 1), (104, .aload_n 0, 1), (105, .getfield 73, 3), (108, .iconst 5, 1), (109, .aload_n 0, 1), (110, .getfield 121, 3), (113, .iastore, 1), (114, .aload_n 0, 1), (115, .iconst 1, 1), (116, .putfield 262, 3), (119, .iconst 1, 1), (120, .ireturn, 1)]
def eCd182 : List (Nat × Instr × Nat) := [(0, .aload_n 0, 1), (1, .getfield 262, 3), (4, .ifCond .ne 6, 3), (7, .bipush (-4), 2), (9, .ireturn, 1), (10, .iconst 0, 1), (11, .istore_n 1, 1), (12, .iload_n 1, 1), (13, .bipush 40, 2), (15, .if_icmp .ge 21, 3), (18, .aload_n 0, 1), (19, .getfield 7, 3), (22, .iload_n 1, 1), (23, .aload_n 0, 1), (24, .getfield 70, 3), (27, .iload_n 1, 1), (28, .iaload, 1), (29, .iastore, 1), (30, .iinc 1 1, 3), (33, .goto (-21), 3), (36, .iconst 0, 1), (37, .istore_n 1, 1), (38, .iload_n 1, 1), (39, .iconst 4, 1), (40, .if_icmp .ge 24, 3), (43, .aload_n 0, 1), (44, .getfield 17, 3), (47, .iload_n 1, 1), (48, .aload_n 0, 1), (49, .getfield 70, 3), (52, .bipush 40, 2), (54, .iload_n 1, 1), (55, .iadd, 1), (56, .iaload, 1), (57, .iastore, 1), (58, .iinc 1 1, 3), (61, .goto (-23), 3), (64, .aload_n 0, 1), (65, .aload_n 0, 1), (66, .getfield 73, 3), (69, .iconst 0, 1), (70, .iaload, 1), (71, .putfield 89, 3), (74, .aload_n 0, 1), (75, .aload_n 0, 1), (76, .getfield 73, 3), (79, .iconst 1, 1), (80, .iaload, 1), (81, .putfield 110, 3), (84, .aload_n 0, 1), (85, .aload_n 0, 1), (86, .getfield 73, 3), (89, .iconst 2, 1), (90, .iaload, 1), (91, .putfield 129, 3), (94, .aload_n 0, 1), (95, .aload_n 0, 1), (96, .getfield 73, 3), (99, .iconst 3, 1), (100, .iaload, 1), (101, .putfield 126, 3), (104, .aload_n 0, 1), (105, .aload_n 0, 1), (106, .getfield 73, 3), (109, .iconst 4, 1), (110, .iaload, 1), (111, .putfield 13, 3), (114, .aload_n 0, 1), (115, .aload_n 0, 1), (116, .getfield 73, 3), (119, .iconst 5, 1), (120, .iaload, 1), (121, .putfield 121, 3), (124, .iconst 1, 1), (125, .ireturn, 1)]
def eCd183 : List (Nat × Instr × Nat) := [(0, .iload_n 1, 1), (1, .iload_n 2, 1), (2, .invokestatic 268, 3), (5, .ifCond .eq 9, 3), (8, .iload_n 3, 1), (9, .bipush 24, 2), (11, .if_icmp .le 5, 3), (14, .iconst (-1), 1), (15, .ireturn, 1), (16, .iload_n 3, 1), (17, .ifCond .ge 6, 3), (20, .bipush (-14), 2), (22, .ireturn, 1), (23, .aload_n 0, 1), (24, .getfield 76, 3), (27, .iload_n 1, 1), (28, .iload_n 2, 1), (29, .iastore, 1), (30, .aload_n 0, 1), (31, .getfield 79, 3), (34, .iload_n 1, 1), (35, .iload_n 3, 1), (36, .iastore, 1), (37, .iconst 0, 1), (38, .istore 4, 2), (40, .iload 4, 2), (42, .bipush 24, 2), (44, .if_icmp .ge 22, 3), (47, .aload_n 0, 1), (48, .getfield 82, 3), (51, .bipush 24, 2), (53, .iload_n 1, 1), (54, .imul, 1), (55, .iload 4, 2), (57, .iadd, 1), (58, .lconst 0, 1), (59, .lastore, 1), (60, .iinc 4 1, 3), (63, .goto (-23), 3), (66, .iload_n 3, 1), (67, .ireturn, 1)]
def eCd184 : List (Nat × Instr × Nat) := [(0, .iload_n 0, 1), (1, .i2l, 1), (2, .lconst 0, 1), (3, .ldc2_w 96, 3), (6, .invokestatic 92, 3), (9, .ifCond .eq 19, 3), (12, .iload_n 1, 1), (13, .i2l, 1), (14, .lconst 0, 1), (15, .ldc2_w 266, 3), (18, .invokestatic 92, 3), (21, .ifCond .eq 7, 3), (24, .iconst 1, 1), (25, .goto 4, 3), (28, .iconst 0, 1), (29, .ireturn, 1)]
def eCd185 : List (Nat × Instr × Nat) := [(0, .iload_n 1, 1), (1, .i2l, 1), (2, .lconst 0, 1), (3, .ldc2_w 96, 3), (6, .invokestatic 92, 3), (9, .ifCond .ne 5, 3), (12, .iconst (-1), 1), (13, .ireturn, 1), (14, .aload_n 0, 1), (15, .getfield 76, 3), (18, .iload_n 1, 1), (19, .iaload, 1), (20, .ifCond .ge 6, 3), (23, .bipush (-11), 2), (25, .ireturn, 1), (26, .aload_n 0, 1), (27, .getfield 76, 3), (30, .iload_n 1, 1), (31, .iconst (-1), 1), (32, .iastore, 1), (33, .aload_n 0, 1), (34, .getfield 79, 3), (37, .iload_n 1, 1), (38, .iaload, 1), (39, .ireturn, 1)]
def eCd186 : List (Nat × Instr × Nat) := [(0, .iload_n 1, 1), (1, .iload_n 2, 1), (2, .invokestatic 268, 3), (5, .ifCond .ne 5, 3), (8, .iconst (-1), 1), (9, .ireturn, 1), (10, .aload_n 0, 1), (11, .iload_n 1, 1), (12, .iload_n 2, 1), (13, .iload_n 3, 1), (14, .iconst 1, 1), (15, .invokevirtual 271, 3), (18, .istore 6, 2), (20, .iload 6, 2), (22, .ifCond .ge 6, 3), (25, .iload 6, 2), (27, .ireturn, 1), (28, .aload_n 0, 1), (29, .getfield 82, 3), (32, .bipush 24, 2), (34, .iload_n 1, 1), (35, .imul, 1), (36, .iload_n 3, 1), (37, .iadd, 1), (38, .iload_n 2, 1), (39, .lload 4, 2), (41, .invokestatic 275, 3), (44, .lastore, 1), (45, .iconst 1, 1), (46, .ireturn, 1)]
def eCd187 : List (Nat × Instr × Nat) := [(0, .aload_n 0, 1), (1, .getfield 76, 3), (4, .iload_n 1, 1), (5, .iaload, 1), (6, .iload_n 2, 1), (7, .if_icmp .eq 20, 3), (10, .aload_n 0, 1), (11, .getfield 76, 3), (14, .iload_n 1, 1), (15, .iaload, 1), (16, .ifCond .ge 8, 3), (19, .bipush (-11), 2), (21, .goto 5, 3), (24, .bipush (-12), 2), (26, .ireturn, 1), (27, .iload_n 3, 1), (28, .i2l, 1), (29, .lconst 0, 1), (30, .aload_n 0, 1), (31, .getfield 79, 3), (34, .iload_n 1, 1), (35, .iaload, 1), (36, .iload 4, 2), (38, .isub, 1), (39, .i2l, 1), (40, .invokestatic 92, 3), (43, .ifCond .eq 7, 3), (46, .iconst 0, 1), (47, .goto 5, 3), (50, .bipush (-13), 2), (52, .ireturn, 1)]
def eCd188 : List (Nat × Instr × Nat) := [(0, .iload_n 0, 1), (1, .ifCond .ne 13, 3), (4, .lload_n 1, 1), (5, .bipush 48, 2), (7, .lshl, 1), (8, .bipush 48, 2), (10, .lshr, 1), (11, .goto 19, 3), (14, .iload_n 0, 1), (15, .iconst 1, 1), (16, .if_icmp .ne 13, 3), (19, .lload_n 1, 1), (20, .bipush 32, 2), (22, .lshl, 1), (23, .bipush 32, 2), (25, .lshr, 1), (26, .goto 4, 3), (29, .lload_n 1, 1), (30, .lreturn, 1)]
def eCd189 : List (Nat × Instr × Nat) := [(0, .iload_n 1, 1), (1, .iload_n 2, 1), (2, .invokestatic 268, 3), (5, .ifCond .eq 16, 3), (8, .iload 4, 2), (10, .i2l, 1), (11, .lconst 1, 1), (12, .ldc2_w 139, 3), (15, .invokestatic 92, 3), (18, .ifCond .ne 5, 3), (21, .iconst (-1), 1), (22, .ireturn, 1), (23, .aload_n 0, 1), (24, .iload_n 1, 1), (25, .iload_n 2, 1), (26, .iload_n 3, 1), (27, .iconst 2, 1), (28, .iload 4, 2), (30, .imul, 1), (31, .invokevirtual 271, 3), (34, .istore 5, 2), (36, .iload 5, 2), (38, .ifCond .ge 8, 3), (41, .iload 5, 2), (43, .goto 17, 3), (46, .aload_n 0, 1), (47, .bipush 24, 2), (49, .iload_n 1, 1), (50, .imul, 1), (51, .iload_n 3, 1), (52, .iadd, 1), (53, .iload 4, 2), (55, .bipush (-4), 2), (57, .invokevirtual 282, 3), (60, .ireturn, 1)]
def eCd190 : List (Nat × Instr × Nat) := [(0, .aload_n 0, 1), (1, .getfield 110, 3), (4, .istore 4, 2), (6, .aload_n 0, 1), (7, .getfield 126, 3), (10, .istore 5, 2), (12, .iconst 0, 1), (13, .istore 6, 2), (15, .iload 6, 2), (17, .iload_n 2, 1), (18, .if_icmp .ge 108, 3), (21, .aload_n 0, 1), (22, .getfield 82, 3), (25, .iload_n 1, 1), (26, .iconst 2, 1), (27, .iload 6, 2), (29, .imul, 1), (30, .iadd, 1), (31, .laload, 1), (32, .lstore 7, 2), (34, .aload_n 0, 1), (35, .getfield 82, 3), (38, .iload_n 1, 1), (39, .iconst 2, 1), (40, .iload 6, 2), (42, .imul, 1), (43, .iadd, 1), (44, .iconst 1, 1), (45, .iadd, 1), (46, .laload, 1), (47, .lstore 9, 2), (49, .iload 6, 2), (51, .iload_n 3, 1), (52, .if_icmp .eq 68, 3), (55, .aload_n 0, 1), (56, .iload 4, 2), (58, .lload 7, 2), (60, .lload 9, 2), (62, .invokevirtual 197, 3), (65, .ifCond .eq 20, 3), (68, .aload_n 0, 1), (69, .iload 4, 2), (71, .iload 5, 2), (73, .lload 7, 2), (75, .l2i, 1), (76, .lload 9, 2), (78, .l2i, 1), (79, .invokevirtual 201, 3), (82, .ifCond .ne 6, 3), (85, .iload 6, 2), (87, .ireturn, 1), (88, .iload 5, 2), (90, .aload_n 0, 1), (91, .lload 7, 2), (93, .l2i, 1), (94, .lload 9, 2), (96, .l2i, 1), (97, .invokevirtual 194, 3), (100, .iadd, 1), (101, .invokestatic 205, 3), (104, .istore 5, 2), (106, .iload 4, 2), (108, .lload 7, 2), (110, .l2i, 1), (111, .iconst (-1), 1), (112, .ixor, 1), (113, .iand, 1), (114, .lload 9, 2), (116, .l2i, 1), (117, .ior, 1), (118, .istore 4, 2), (120, .iinc 6 1, 3), (123, .goto (-108), 3), (126, .aload_n 0, 1), (127, .iload 4, 2), (129, .putfield 279, 3), (132, .bipush (-4), 2), (134, .ireturn, 1)]
def eCd191 : List (Nat × Instr × Nat) := [(0, .iload_n 1, 1), (1, .iload_n 2, 1), (2, .invokestatic 268, 3), (5, .ifCond .eq 26, 3), (8, .iload 4, 2), (10, .i2l, 1), (11, .lconst 1, 1), (12, .ldc2_w 139, 3), (15, .invokestatic 92, 3), (18, .ifCond .eq 13, 3), (21, .aload_n 0, 1), (22, .iload 5, 2), (24, .i2l, 1), (25, .invokevirtual 100, 3), (28, .ifCond .ne 5, 3), (31, .iconst (-1), 1), (32, .ireturn, 1), (33, .aload_n 0, 1), (34, .iload_n 1, 1), (35, .iload_n 2, 1), (36, .iload_n 3, 1), (37, .iconst 2, 1), (38, .iload 4, 2), (40, .imul, 1), (41, .invokevirtual 271, 3), (44, .istore 6, 2), (46, .iload 6, 2), (48, .ifCond .ge 6, 3), (51, .iload 6, 2), (53, .ireturn, 1), (54, .iconst 0, 1), (55, .istore 7, 2), (57, .iconst 0, 1), (58, .istore 8, 2), (60, .iload 8, 2), (62, .iload 4, 2), (64, .if_icmp .ge 60, 3), (67, .aload_n 0, 1), (68, .bipush 24, 2), (70, .iload_n 1, 1), (71, .imul, 1), (72, .iload_n 3, 1), (73, .iadd, 1), (74, .iload 4, 2), (76, .iload 8, 2), (78, .invokevirtual 282, 3), (81, .ifCond .ge 16, 3), (84, .aload_n 0, 1), (85, .getfield 279, 3), (88, .iload 5, 2), (90, .if_icmp .ne 7, 3), (93, .iconst 1, 1), (94, .goto 4, 3), (97, .iconst 0, 1), (98, .istore 9, 2), (100, .iload 7, 2), (102, .iload 9, 2), (104, .ifCond .eq 10, 3), (107, .iconst 1, 1), (108, .iload 8, 2), (110, .ishl, 1), (111, .goto 4, 3), (114, .iconst 0, 1), (115, .ior, 1), (116, .istore 7, 2), (118, .iinc 8 1, 3), (121, .goto (-61), 3), (124, .iload 7, 2), (126, .ireturn, 1)]
def eCd192 : List (Nat × Instr × Nat) := [(0, .iload_n 1, 1), (1, .iload_n 2, 1), (2, .invokestatic 268, 3), (5, .ifCond .ne 5, 3), (8, .iconst (-1), 1), (9, .ireturn, 1), (10, .aload_n 0, 1), (11, .invokevirtual 225, 3), (14, .istore 4, 2), (16, .iload 4, 2), (18, .ifCond .ge 6, 3), (21, .bipush (-4), 2), (23, .ireturn, 1), (24, .aload_n 0, 1), (25, .iload_n 1, 1), (26, .iload_n 2, 1), (27, .iload_n 3, 1), (28, .iload 4, 2), (30, .invokevirtual 271, 3), (33, .istore 5, 2), (35, .iload 5, 2), (37, .ifCond .ge 6, 3), (40, .iload 5, 2), (42, .ireturn, 1), (43, .iconst 0, 1), (44, .istore 6, 2), (46, .iload 6, 2), (48, .iload 4, 2), (50, .if_icmp .ge 35, 3), (53, .aload_n 0, 1), (54, .getfield 82, 3), (57, .bipush 24, 2), (59, .iload_n 1, 1), (60, .imul, 1), (61, .iload_n 3, 1), (62, .iadd, 1), (63, .iload 6, 2), (65, .iadd, 1), (66, .iload_n 2, 1), (67, .aload_n 0, 1), (68, .getfield 46, 3), (71, .iload 6, 2), (73, .iaload, 1), (74, .i2l, 1), (75, .invokestatic 275, 3), (78, .lastore, 1), (79, .iinc 6 1, 3), (82, .goto (-36), 3), (85, .iload 4, 2), (87, .ireturn, 1)]
def eCd193 : List (Nat × Instr × Nat) := [(0, .iload_n 1, 1), (1, .i2l, 1), (2, .lconst 0, 1), (3, .ldc2_w 96, 3), (6, .invokestatic 92, 3), (9, .ifCond .eq 15, 3), (12, .iload_n 3, 1), (13, .i2l, 1), (14, .lconst 0, 1), (15, .ldc2_w 96, 3), (18, .invokestatic 92, 3), (21, .ifCond .ne 5, 3), (24, .iconst (-1), 1), (25, .ireturn, 1), (26, .aload_n 0, 1), (27, .getfield 76, 3), (30, .iload_n 1, 1), (31, .iaload, 1), (32, .ifCond .lt 12, 3), (35, .aload_n 0, 1), (36, .getfield 76, 3), (39, .iload_n 3, 1), (40, .iaload, 1), (41, .ifCond .ge 6, 3), (44, .bipush (-11), 2), (46, .ireturn, 1), (47, .aload_n 0, 1), (48, .getfield 76, 3), (51, .iload_n 1, 1), (52, .iaload, 1), (53, .aload_n 0, 1), (54, .getfield 76, 3), (57, .iload_n 3, 1), (58, .iaload, 1), (59, .if_icmp .eq 6, 3), (62, .bipush (-12), 2), (64, .ireturn, 1), (65, .iload 5, 2), (67, .ifCond .lt 44, 3), (70, .iload_n 2, 1), (71, .i2l, 1), (72, .lconst 0, 1), (73, .aload_n 0, 1), (74, .getfield 79, 3), (77, .iload_n 1, 1), (78, .iaload, 1), (79, .i2l, 1), (80, .iload 5, 2), (82, .i2l, 1), (83, .lsub, 1), (84, .invokestatic 92, 3), (87, .ifCond .eq 24, 3), (90, .iload 4, 2), (92, .i2l, 1), (93, .lconst 0, 1), (94, .aload_n 0, 1), (95, .getfield 79, 3), (98, .iload_n 3, 1), (99, .iaload, 1), (100, .i2l, 1), (101, .iload 5, 2), (103, .i2l, 1), (104, .lsub, 1), (105, .invokestatic 92, 3), (108, .ifCond .ne 6, 3), (111, .bipush (-13), 2), (113, .ireturn, 1), (114, .iconst 0, 1), (115, .istore 6, 2), (117, .iload 6, 2), (119, .iload 5, 2), (121, .if_icmp .ge 30, 3), (124, .aload_n 0, 1), (125, .getfield 86, 3), (128, .iload 6, 2), (130, .aload_n 0, 1), (131, .getfield 82, 3), (134, .bipush 24, 2), (136, .iload_n 1, 1), (137, .imul, 1), (138, .iload_n 2, 1), (139, .iadd, 1), (140, .iload 6, 2), (142, .iadd, 1), (143, .laload, 1), (144, .lastore, 1), (145, .iinc 6 1, 3), (148, .goto (-31), 3), (151, .iconst 0, 1), (152, .istore 6, 2), (154, .iload 6, 2), (156, .iload 5, 2), (158, .if_icmp .ge 31, 3), (161, .aload_n 0, 1), (162, .getfield 82, 3), (165, .bipush 24, 2), (167, .iload_n 3, 1), (168, .imul, 1), (169, .iload 4, 2), (171, .iadd, 1), (172, .iload 6, 2), (174, .iadd, 1), (175, .aload_n 0, 1), (176, .getfield 86, 3), (179, .iload 6, 2), (181, .laload, 1), (182, .lastore, 1), (183, .iinc 6 1, 3), (186, .goto (-32), 3), (189, .iload 5, 2), (191, .ireturn, 1)]
def eCd194 : List (Nat × Instr × Nat) := [(0, .aload_n 0, 1), (1, .iload_n 1, 1), (2, .iconst 0, 1), (3, .invokevirtual 633, 3), (6, .ireturn, 1)]
def eCd195 : List (Nat × Instr × Nat) := [(0, .aload_n 0, 1), (1, .invokevirtual 492, 3), (4, .ifCond .eq 19, 3), (7, .aload_n 0, 1), (8, .getfield 9, 3), (11, .iload_n 1, 1), (12, .iload_n 2, 1), (13, .aload_n 0, 1), (14, .invokevirtual 505, 3), (17, .invokestatic 637, 3), (20, .goto 16, 3), (23, .aload_n 0, 1), (24, .getfield 9, 3), (27, .iload_n 1, 1), (28, .iload_n 2, 1), (29, .aload_n 0, 1), (30, .invokevirtual 505, 3), (33, .invokestatic 640, 3), (36, .ireturn, 1)]
def eCd196 : List (Nat × Instr × Nat) := [(0, .getstatic 38, 3), (3, .ifCond .eq 14, 3), (6, .aload_n 0, 1), (7, .getfield 15, 3), (10, .ifCond .ne 7, 3), (13, .iconst 1, 1), (14, .goto 4, 3), (17, .iconst 0, 1), (18, .ireturn, 1)]
def eCd197 : List (Nat × Instr × Nat) := [(0, .aload_n 0, 1), (1, .getfield 9, 3), (4, .arraylength, 1), (5, .aload_n 0, 1), (6, .invokevirtual 335, 3), (9, .ishr, 1), (10, .ireturn, 1)]
def eCd198 : List (Nat × Instr × Nat) := [(0, .getstatic 38, 3), (3, .ifCond .eq 10, 3), (6, .aload_n 0, 1), (7, .getfield 15, 3), (10, .goto 4, 3), (13, .iconst 1, 1), (14, .ireturn, 1)]
def eCd199 : List (Nat × Instr × Nat) := [(0, .iload_n 1, 1), (1, .invokestatic 88, 3), (4, .ifCond .ne 5, 3), (7, .iconst (-1), 1), (8, .ireturn, 1), (9, .iload_n 2, 1), (10, .iconst 0, 1), (11, .invokestatic 92, 3), (14, .istore_n 2, 1), (15, .iload_n 3, 1), (16, .aload_n 0, 1), (17, .arraylength, 1), (18, .invokestatic 38, 3), (21, .istore_n 3, 1), (22, .iload_n 2, 1), (23, .iload_n 3, 1), (24, .if_icmp .lt 5, 3), (27, .iconst (-1), 1), (28, .ireturn, 1), (29, .aload_n 0, 1), (30, .iload_n 1, 1), (31, .iload_n 2, 1), (32, .iload_n 3, 1), (33, .invokestatic 95, 3), (36, .ireturn, 1)]
def eCd200 : List (Nat × Instr × Nat) := [(0, .iload_n 0, 1), (1, .ifCond .lt 14, 3), (4, .iload_n 0, 1), (5, .sipush 255, 3), (8, .if_icmp .gt 7, 3), (11, .iconst 1, 1), (12, .goto 4, 3), (15, .iconst 0, 1), (16, .ireturn, 1)]
def eCd201 : List (Nat × Instr × Nat) := [(0, .iload_n 1, 1), (1, .i2b, 1), (2, .istore 4, 2), (4, .iload_n 2, 1), (5, .istore 5, 2), (7, .iload 5, 2), (9, .iload_n 3, 1), (10, .if_icmp .ge 21, 3), (13, .aload_n 0, 1), (14, .iload 5, 2), (16, .baload, 1), (17, .iload 4, 2), (19, .if_icmp .ne 6, 3), (22, .iload 5, 2), (24, .ireturn, 1), (25, .iinc 5 1, 3), (28, .goto (-21), 3), (31, .iconst (-1), 1), (32, .ireturn, 1)]
def eCd202 : List (Nat × Instr × Nat) := [(0, .new 7, 3), (3, .dup, 1), (4, .invokespecial 9, 3), (7, .astore_n 1, 1), (8, .new 10, 3), (11, .dup, 1), (12, .invokespecial 12, 3), (15, .astore_n 2, 1), (16, .iconst 0, 1), (17, .istore_n 3, 1), (18, .iload_n 3, 1), (19, .aload_n 0, 1), (20, .arraylength, 1), (21, .bipush 6, 2), (23, .isub, 1), (24, .if_icmp .gt 1042, 3), (27, .aload_n 0, 1), (28, .iload_n 3, 1), (29, .iaload, 1), (30, .bipush 31, 2), (32, .iand, 1), (33, .tableswitch 1027 0 25 #[119, 182, 215, 238, 261, 294, 317, 380, 393, 406, 429, 462, 495, 518, 531, 564, 597, 630, 643, 656, 709, 772, 815, 838, 921, 964], 119), (152, .aload_n 1, 1), (153, .aload_n 0, 1), (154, .iload_n 3, 1), (155, .iconst 1, 1), (156, .iadd, 1), (157, .iaload, 1), (158, .aload_n 0, 1), (159, .iload_n 3, 1), (160, .iconst 2, 1), (161, .iadd, 1), (162, .iaload, 1), (163, .aload_n 0, 1), (164, .iload_n 3, 1), (165, .iconst 3, 1), (166, .iadd, 1), (167, .iaload, 1), (168, .aload_n 0, 1), (169, .iload_n 3, 1), (170, .iconst 4, 1), (171, .iadd, 1), (172, .iaload, 1), (173, .aload_n 0, 1), (174, .iload_n 3, 1), (175, .iconst 5, 1), (176, .iadd, 1), (177, .iaload, 1), (178, .invokevirtual 13, 3), (181, .aload_n 2, 1), (182, .aload_n 0, 1), (183, .iload_n 3, 1), (184, .iconst 1, 1), (185, .iadd, 1), (186, .iaload, 1), (187, .aload_n 0, 1), (188, .iload_n 3, 1), (189, .iconst 2, 1), (190, .iadd, 1), (191, .iaload, 1), (192, .aload_n 0, 1), (193, .iload_n 3, 1), (194, .iconst 3, 1), (195, .iadd, 1), (196, .iaload, 1), (197, .aload_n 0, 1), (198, .iload_n 3, 1), (199, .iconst 4, 1), (200, .iadd, 1), (201, .iaload, 1), (202, .aload_n 0, 1), (203, .iload_n 3, 1), (204, .iconst 5, 1), (205, .iadd, 1), (206, .iaload, 1), (207, .invokevirtual 17, 3), (210, .if_icmp .eq 850, 3), (213, .iconst 0, 1), (214, .ireturn, 1), (215, .aload_n 1, 1), (216, .aload_n 0, 1), (217, .iload_n 3, 1), (218, .iconst 1, 1), (219, .iadd, 1), (220, .iaload, 1), (221, .aload_n 0, 1), (222, .iload_n 3, 1), (223, .iconst 2, 1), (224, .iadd, 1), (225, .iaload, 1), (226, .invokevirtual 18, 3), (229, .aload_n 2, 1), (230, .aload_n 0, 1), (231, .iload_n 3, 1), (232, .iconst 1, 1), (233, .iadd, 1), (234, .iaload, 1), (235, .aload_n 0, 1), (236, .iload_n 3, 1), (237, .iconst 2, 1), (238, .iadd, 1), (239, .iaload, 1), (240, .invokevirtual 22, 3), (243, .if_icmp .eq 817, 3), (246, .iconst 0, 1), (247, .ireturn, 1), (248, .aload_n 1, 1), (249, .aload_n 0, 1), (250, .iload_n 3, 1), (251, .iconst 1, 1), (252, .iadd, 1), (253, .iaload, 1), (254, .invokevirtual 23, 3), (257, .aload_n 2, 1), (258, .aload_n 0, 1), (259, .iload_n 3, 1), (260, .iconst 1, 1), (261, .iadd, 1), (262, .iaload, 1), (263, .invokevirtual 27, 3), (266, .if_icmp .eq 794, 3), (269, .iconst 0, 1), (270, .ireturn, 1), (271, .aload_n 1, 1), (272, .aload_n 0, 1), (273, .iload_n 3, 1), (274, .iconst 1, 1), (275, .iadd, 1), (276, .iaload, 1), (277, .invokevirtual 28, 3), (280, .aload_n 2, 1), (281, .aload_n 0, 1), (282, .iload_n 3, 1), (283, .iconst 1, 1), (284, .iadd, 1), (285, .iaload, 1), (286, .invokevirtual 31, 3), (289, .if_icmp .eq 771, 3), (292, .iconst 0, 1), (293, .ireturn, 1), (294, .aload_n 1, 1), (295, .aload_n 0, 1), (296, .iload_n 3, 1), (297, .iconst 1, 1), (298, .iadd, 1), (299, .iaload, 1), (300, .aload_n 0, 1), (301, .iload_n 3, 1), (302, .iconst 2, 1), (303, .iadd, 1), (304, .iaload, 1), (305, .invokevirtual 32, 3), (308, .aload_n 2, 1), (309, .aload_n 0, 1), (310, .iload_n 3, 1), (311, .iconst 1, 1), (312, .iadd, 1), (313, .iaload, 1), (314, .aload_n 0, 1), (315, .iload_n 3, 1), (316, .iconst 2, 1), (317, .iadd, 1), (318, .iaload, 1), (319, .invokevirtual 35, 3), (322, .if_icmp .eq 738, 3), (325, .iconst 0, 1), (326, .ireturn, 1), (327, .aload_n 1, 1), (328, .aload_n 0, 1), (329, .iload_n 3, 1), (330, .iconst 1, 1), (331, .iadd, 1), (332, .iaload, 1), (333, .invokevirtual 36, 3), (336, .aload_n 2, 1), (337, .aload_n 0, 1), (338, .iload_n 3, 1), (339, .iconst 1, 1), (340, .iadd, 1), (341, .iaload, 1), (342, .invokevirtual 39, 3), (345, .if_icmp .eq 715, 3), (348, .iconst 0, 1), (349, .ireturn, 1), (350, .aload_n 1, 1), (351, .aload_n 0, 1), (352, .iload_n 3, 1), (353, .iconst 1, 1), (354, .iadd, 1), (355, .iaload, 1), (356, .i2l, 1), (357, .bipush 32, 2), (359, .lshl, 1), (360, .aload_n 0, 1), (361, .iload_n 3, 1), (362, .iconst 2, 1), (363, .iadd, 1), (364, .iaload, 1), (365, .i2l, 1), (366, .ldc2_w 40, 3), (369, .land, 1), (370, .lor, 1), (371, .aload_n 0, 1), (372, .iload_n 3, 1), (373, .iconst 3, 1), (374, .iadd, 1), (375, .iaload, 1), (376, .invokevirtual 42, 3), (379, .aload_n 2, 1), (380, .aload_n 0, 1), (381, .iload_n 3, 1), (382, .iconst 1, 1), (383, .iadd, 1), (384, .iaload, 1), (385, .i2l, 1), (386, .bipush 32, 2), (388, .lshl, 1), (389, .aload_n 0, 1), (390, .iload_n 3, 1), (391, .iconst 2, 1), (392, .iadd, 1), (393, .iaload, 1), (394, .i2l, 1), (395, .ldc2_w 40, 3), (398, .land, 1), (399, .lor, 1), (400, .aload_n 0, 1), (401, .iload_n 3, 1), (402, .iconst 3, 1), (403, .iadd, 1), (404, .iaload, 1), (405, .invokevirtual 46, 3), (408, .if_icmp .eq 652, 3), (411, .iconst 0, 1), (412, .ireturn, 1), (413, .aload_n 1, 1), (414, .invokevirtual 47, 3), (417, .aload_n 2, 1), (418, .invokevirtual 51, 3), (421, .if_icmp .eq 639, 3), (424, .iconst 0, 1), (425, .ireturn, 1), (426, .aload_n 1, 1), (427, .invokevirtual 52, 3), (430, .aload_n 2, 1), (431, .invokevirtual 55, 3), (434, .if_icmp .eq 626, 3), (437, .iconst 0, 1), (438, .ireturn, 1), (439, .aload_n 1, 1), (440, .aload_n 0, 1), (441, .iload_n 3, 1), (442, .iconst 1, 1), (443, .iadd, 1), (444, .iaload, 1), (445, .invokevirtual 56, 3), (448, .aload_n 2, 1), (449, .aload_n 0, 1), (450, .iload_n 3, 1), (451, .iconst 1, 1), (452, .iadd, 1), (453, .iaload, 1), (454, .invokevirtual 59, 3), (457, .if_icmp .eq 603, 3), (460, .iconst 0, 1), (461, .ireturn, 1), (462, .aload_n 1, 1), (463, .aload_n 0, 1), (464, .iload_n 3, 1), (465, .iconst 1, 1), (466, .iadd, 1), (467, .iaload, 1), (468, .aload_n 0, 1), (469, .iload_n 3, 1), (470, .iconst 2, 1), (471, .iadd, 1), (472, .iaload, 1), (473, .invokevirtual 60, 3), (476, .aload_n 2, 1), (477, .aload_n 0, 1), (478, .iload_n 3, 1), (479, .iconst 1, 1), (480, .iadd, 1), (481, .iaload, 1), (482, .aload_n 0, 1), (483, .iload_n 3, 1), (484, .iconst 2, 1), (485, .iadd, 1), (486, .iaload, 1), (487, .invokevirtual 63, 3), (490, .if_icmp .eq 570, 3), (493, .iconst 0, 1), (494, .ireturn, 1), (495, .aload_n 1, 1), (496, .aload_n 0, 1), (497, .iload_n 3, 1), (498, .iconst 1, 1), (499, .iadd, 1), (500, .iaload, 1), (501, .aload_n 0, 1), (502, .iload_n 3, 1), (503, .iconst 2, 1), (504, .iadd, 1), (505, .iaload, 1), (506, .invokevirtual 64, 3), (509, .aload_n 2, 1), (510, .aload_n 0, 1), (511, .iload_n 3, 1), (512, .iconst 1, 1), (513, .iadd, 1), (514, .iaload, 1), (515, .aload_n 0, 1), (516, .iload_n 3, 1), (517, .iconst 2, 1), (518, .iadd, 1), (519, .iaload, 1), (520, .invokevirtual 67, 3), (523, .if_icmp .eq 537, 3), (526, .iconst 0, 1), (527, .ireturn, 1), (528, .aload_n 1, 1), (529, .aload_n 0, 1), (530, .iload_n 3, 1), (531, .iconst 1, 1), (532, .iadd, 1), (533, .iaload, 1), (534, .invokevirtual 68, 3), (537, .aload_n 2, 1), (538, .aload_n 0, 1), (539, .iload_n 3, 1), (540, .iconst 1, 1), (541, .iadd, 1), (542, .iaload, 1), (543, .invokevirtual 71, 3), (546, .if_icmp .eq 514, 3), (549, .iconst 0, 1), (550, .ireturn, 1), (551, .aload_n 1, 1), (552, .invokevirtual 72, 3), (555, .aload_n 2, 1), (556, .invokevirtual 75, 3), (559, .if_icmp .eq 501, 3), (562, .iconst 0, 1), (563, .ireturn, 1), (564, .aload_n 1, 1), (565, .aload_n 0, 1), (566, .iload_n 3, 1), (567, .iconst 1, 1), (568, .iadd, 1), (569, .iaload, 1), (570, .aload_n 0, 1), (571, .iload_n 3, 1), (572, .iconst 2, 1), (573, .iadd, 1), (574, .iaload, 1), (575, .invokevirtual 76, 3), (578, .aload_n 2, 1), (579, .aload_n 0, 1), (580, .iload_n 3, 1), (581, .iconst 1, 1), (582, .iadd, 1), (583, .iaload, 1), (584, .aload_n 0, 1), (585, .iload_n 3, 1), (586, .iconst 2, 1), (587, .iadd, 1), (588, .iaload, 1), (589, .invokevirtual 79, 3), (592, .if_icmp .eq 468, 3), (595, .iconst 0, 1), (596, .ireturn, 1), (597, .aload_n 1, 1), (598, .aload_n 0, 1), (599, .iload_n 3, 1), (600, .iconst 1, 1), (601, .iadd, 1), (602, .iaload, 1), (603, .aload_n 0, 1), (604, .iload_n 3, 1), (605, .iconst 2, 1), (606, .iadd, 1), (607, .iaload, 1), (608, .invokevirtual 80, 3), (611, .aload_n 2, 1), (612, .aload_n 0, 1), (613, .iload_n 3, 1), (614, .iconst 1, 1), (615, .iadd, 1), (616, .iaload, 1), (617, .aload_n 0, 1), (618, .iload_n 3, 1), (619, .iconst 2, 1), (620, .iadd, 1), (621, .iaload, 1), (622, .invokevirtual 83, 3), (625, .if_icmp .eq 435, 3), (628, .iconst 0, 1), (629, .ireturn, 1), (630, .aload_n 1, 1), (631, .aload_n 0, 1), (632, .iload_n 3, 1), (633, .iconst 1, 1), (634, .iadd, 1), (635, .iaload, 1), (636, .aload_n 0, 1), (637, .iload_n 3, 1), (638, .iconst 2, 1), (639, .iadd, 1), (640, .iaload, 1), (641, .invokevirtual 84, 3), (644, .aload_n 2, 1), (645, .aload_n 0, 1), (646, .iload_n 3, 1), (647, .iconst 1, 1), (648, .iadd, 1), (649, .iaload, 1), (650, .aload_n 0, 1), (651, .iload_n 3, 1), (652, .iconst 2, 1), (653, .iadd, 1), (654, .iaload, 1), (655, .invokevirtual 87, 3), (658, .if_icmp .eq 402, 3), (661, .iconst 0, 1), (662, .ireturn, 1), (663, .aload_n 1, 1), (664, .invokevirtual 88, 3), (667, .aload_n 2, 1), (668, .invokevirtual 91, 3), (671, .if_icmp .eq 389, 3), (674, .iconst 0, 1), (675, .ireturn, 1), (676, .aload_n 1, 1), (677, .invokevirtual 92, 3), (680, .aload_n 2, 1), (681, .invokevirtual 95, 3), (684, .if_icmp .eq 376, 3), (687, .iconst 0, 1), (688, .ireturn, 1), (689, .aload_n 1, 1), (690, .aload_n 0, 1), (691, .iload_n 3, 1), (692, .iconst 1, 1), (693, .iadd, 1), (694, .iaload, 1), (695, .aload_n 0, 1), (696, .iload_n 3, 1), (697, .iconst 2, 1), (698, .iadd, 1), (699, .iaload, 1), (700, .aload_n 0, 1), (701, .iload_n 3, 1), (702, .iconst 3, 1), (703, .iadd, 1), (704, .iaload, 1), (705, .aload_n 0, 1), (706, .iload_n 3, 1), (707, .iconst 4, 1), (708, .iadd, 1), (709, .iaload, 1), (710, .invokevirtual 96, 3), (713, .aload_n 2, 1), (714, .aload_n 0, 1), (715, .iload_n 3, 1), (716, .iconst 1, 1), (717, .iadd, 1), (718, .iaload, 1), (719, .aload_n 0, 1), (720, .iload_n 3, 1), (721, .iconst 2, 1), (722, .iadd, 1), (723, .iaload, 1), (724, .aload_n 0, 1), (725, .iload_n 3, 1), (726, .iconst 3, 1), (727, .iadd, 1), (728, .iaload, 1), (729, .aload_n 0, 1), (730, .iload_n 3, 1), (731, .iconst 4, 1), (732, .iadd, 1), (733, .iaload, 1), (734, .invokevirtual 100, 3), (737, .if_icmp .eq 323, 3), (740, .iconst 0, 1), (741, .ireturn, 1), (742, .aload_n 1, 1), (743, .aload_n 0, 1), (744, .iload_n 3, 1), (745, .iconst 1, 1), (746, .iadd, 1), (747, .iaload, 1), (748, .aload_n 0, 1), (749, .iload_n 3, 1), (750, .iconst 2, 1), (751, .iadd, 1), (752, .iaload, 1), (753, .aload_n 0, 1), (754, .iload_n 3, 1), (755, .iconst 3, 1), (756, .iadd, 1), (757, .iaload, 1), (758, .aload_n 0, 1), (759, .iload_n 3, 1), (760, .iconst 4, 1), (761, .iadd, 1), (762, .iaload, 1), (763, .aload_n 0, 1), (764, .iload_n 3, 1), (765, .iconst 5, 1), (766, .iadd, 1), (767, .iaload, 1), (768, .invokevirtual 101, 3), (771, .aload_n 2, 1), (772, .aload_n 0, 1), (773, .iload_n 3, 1), (774, .iconst 1, 1), (775, .iadd, 1), (776, .iaload, 1), (777, .aload_n 0, 1), (778, .iload_n 3, 1), (779, .iconst 2, 1), (780, .iadd, 1), (781, .iaload, 1), (782, .aload_n 0, 1), (783, .iload_n 3, 1), (784, .iconst 3, 1), (785, .iadd, 1), (786, .iaload, 1), (787, .aload_n 0, 1), (788, .iload_n 3, 1), (789, .iconst 4, 1), (790, .iadd, 1), (791, .iaload, 1), (792, .aload_n 0, 1), (793, .iload_n 3, 1), (794, .iconst 5, 1), (795, .iadd, 1), (796, .iaload, 1), (797, .invokevirtual 104, 3), (800, .if_icmp .eq 260, 3), (803, .iconst 0, 1), (804, .ireturn, 1), (805, .aload_n 1, 1), (806, .aload_n 0, 1), (807, .iload_n 3, 1), (808, .iconst 1, 1), (809, .iadd, 1), (810, .iaload, 1), (811, .aload_n 0, 1), (812, .iload_n 3, 1), (813, .iconst 2, 1), (814, .iadd, 1), (815, .iaload, 1), (816, .aload_n 0, 1), (817, .iload_n 3, 1), (818, .iconst 3, 1), (819, .iadd, 1), (820, .iaload, 1), (821, .invokevirtual 105, 3), (824, .aload_n 2, 1), (825, .aload_n 0, 1), (826, .iload_n 3, 1), (827, .iconst 1, 1), (828, .iadd, 1), (829, .iaload, 1), (830, .aload_n 0, 1), (831, .iload_n 3, 1), (832, .iconst 2, 1), (833, .iadd, 1), (834, .iaload, 1), (835, .aload_n 0, 1), (836, .iload_n 3, 1), (837, .iconst 3, 1), (838, .iadd, 1), (839, .iaload, 1), (840, .invokevirtual 109, 3), (843, .if_icmp .eq 217, 3), (846, .iconst 0, 1), (847, .ireturn, 1), (848, .aload_n 1, 1), (849, .aload_n 0, 1), (850, .iload_n 3, 1), (851, .iconst 1, 1), (852, .iadd, 1), (853, .iaload, 1), (854, .invokevirtual 110, 3), (857, .aload_n 2, 1), (858, .aload_n 0, 1), (859, .iload_n 3, 1), (860, .iconst 1, 1), (861, .iadd, 1), (862, .iaload, 1), (863, .invokevirtual 113, 3), (866, .if_icmp .eq 194, 3), (869, .iconst 0, 1), (870, .ireturn, 1), (871, .aload_n 1, 1), (872, .aload_n 0, 1), (873, .iload_n 3, 1), (874, .iconst 1, 1), (875, .iadd, 1), (876, .iaload, 1), (877, .aload_n 0, 1), (878, .iload_n 3, 1), (879, .iconst 2, 1), (880, .iadd, 1), (881, .iaload, 1), (882, .aload_n 0, 1), (883, .iload_n 3, 1), (884, .iconst 3, 1), (885, .iadd, 1), (886, .iaload, 1), (887, .aload_n 0, 1), (888, .iload_n 3, 1), (889, .iconst 4, 1), (890, .iadd, 1), (891, .iaload, 1), (892, .i2l, 1), (893, .bipush 32, 2), (895, .lshl, 1), (896, .aload_n 0, 1), (897, .iload_n 3, 1), (898, .iconst 5, 1), (899, .iadd, 1), (900, .iaload, 1), (901, .i2l, 1), (902, .ldc2_w 40, 3), (905, .land, 1), (906, .lor, 1), (907, .invokevirtual 114, 3), (910, .aload_n 2, 1), (911, .aload_n 0, 1), (912, .iload_n 3, 1), (913, .iconst 1, 1), (914, .iadd, 1), (915, .iaload, 1), (916, .aload_n 0, 1), (917, .iload_n 3, 1), (918, .iconst 2, 1), (919, .iadd, 1), (920, .iaload, 1), (921, .aload_n 0, 1), (922, .iload_n 3, 1), (923, .iconst 3, 1), (924, .iadd, 1), (925, .iaload, 1), (926, .aload_n 0, 1), (927, .iload_n 3, 1), (928, .iconst 4, 1), (929, .iadd, 1), (930, .iaload, 1), (931, .i2l, 1), (932, .bipush 32, 2), (934, .lshl, 1), (935, .aload_n 0, 1), (936, .iload_n 3, 1), (937, .iconst 5, 1), (938, .iadd, 1), (939, .iaload, 1), (940, .i2l, 1), (941, .ldc2_w 40, 3), (944, .land, 1), (945, .lor, 1), (946, .invokevirtual 118, 3), (949, .if_icmp .eq 111, 3), (952, .iconst 0, 1), (953, .ireturn, 1), (954, .aload_n 1, 1), (955, .aload_n 0, 1), (956, .iload_n 3, 1), (957, .iconst 1, 1), (958, .iadd, 1), (959, .iaload, 1), (960, .aload_n 0, 1), (961, .iload_n 3, 1), (962, .iconst 2, 1), (963, .iadd, 1), (964, .iaload, 1), (965, .aload_n 0, 1), (966, .iload_n 3, 1), (967, .iconst 3, 1), (968, .iadd, 1), (969, .iaload, 1), (970, .invokevirtual 119, 3), (973, .aload_n 2, 1), (974, .aload_n 0, 1), (975, .iload_n 3, 1), (976, .iconst 1, 1), (977, .iadd, 1), (978, .iaload, 1), (979, .aload_n 0, 1), (980, .iload_n 3, 1), (981, .iconst 2, 1), (982, .iadd, 1), (983, .iaload, 1), (984, .aload_n 0, 1), (985, .iload_n 3, 1), (986, .iconst 3, 1), (987, .iadd, 1), (988, .iaload, 1), (989, .invokevirtual 122, 3), (992, .if_icmp .eq 68, 3), (995, .iconst 0, 1), (996, .ireturn, 1), (997, .aload_n 1, 1), (998, .aload_n 0, 1), (999, .iload_n 3, 1), (1000, .iconst 1, 1), (1001, .iadd, 1), (1002, .iaload, 1), (1003, .aload_n 0, 1), (1004, .iload_n 3, 1), (1005, .iconst 2, 1), (1006, .iadd, 1), (1007, .iaload, 1), (1008, .aload_n 0, 1), (1009, .iload_n 3, 1), (1010, .iconst 3, 1), (1011, .iadd, 1), (1012, .iaload, 1), (1013, .aload_n 0, 1), (1014, .iload_n 3, 1), (1015, .iconst 4, 1), (1016, .iadd, 1), (1017, .iaload, 1), (1018, .aload_n 0, 1), (1019, .iload_n 3, 1), (1020, .iconst 5, 1), (1021, .iadd, 1), (1022, .iaload, 1), (1023, .invokevirtual 123, 3), (1026, .aload_n 2, 1), (1027, .aload_n 0, 1), (1028, .iload_n 3, 1), (1029, .iconst 1, 1), (1030, .iadd, 1), (1031, .iaload, 1), (1032, .aload_n 0, 1), (1033, .iload_n 3, 1), (1034, .iconst 2, 1), (1035, .iadd, 1), (1036, .iaload, 1), (1037, .aload_n 0, 1), (1038, .iload_n 3, 1), (1039, .iconst 3, 1), (1040, .iadd, 1), (1041, .iaload, 1), (1042, .aload_n 0, 1), (1043, .iload_n 3, 1), (1044, .iconst 4, 1), (1045, .iadd, 1), (1046, .iaload, 1), (1047, .aload_n 0, 1), (1048, .iload_n 3, 1), (1049, .iconst 5, 1), (1050, .iadd, 1), (1051, .iaload, 1), (1052, .invokevirtual 126, 3), (1055, .if_icmp .eq 5, 3), (1058, .iconst 0, 1), (1059, .ireturn, 1), (1060, .iinc 3 6, 3), (1063, .goto (-1045), 3), (1066, .iconst 1, 1), (1067, .ireturn, 1)]
def eCd : Nat → List (Nat × Instr × Nat)
  | 0 => eCd0
  | 1 => eCd1
  | 2 => eCd2
  | 3 => eCd3
  | 4 => eCd4
  | 5 => eCd5
  | 6 => eCd6
  | 7 => eCd7
  | 8 => eCd8
  | 9 => eCd9
  | 10 => eCd10
  | 11 => eCd11
  | 12 => eCd12
  | 13 => eCd13
  | 14 => eCd14
  | 15 => eCd15
  | 16 => eCd16
  | 17 => eCd17
  | 18 => eCd18
  | 19 => eCd19
  | 20 => eCd20
  | 21 => eCd21
  | 22 => eCd22
  | 23 => eCd23
  | 24 => eCd24
  | 25 => eCd25
  | 26 => eCd26
  | 27 => eCd27
  | 28 => eCd28
  | 29 => eCd29
  | 30 => eCd30
  | 31 => eCd31
  | 32 => eCd32
  | 33 => eCd33
  | 34 => eCd34
  | 35 => eCd35
  | 36 => eCd36
  | 37 => eCd37
  | 38 => eCd38
  | 39 => eCd39
  | 40 => eCd40
  | 41 => eCd41
  | 42 => eCd42
  | 43 => eCd43
  | 44 => eCd44
  | 45 => eCd45
  | 46 => eCd46
  | 47 => eCd47
  | 48 => eCd48
  | 49 => eCd49
  | 50 => eCd50
  | 51 => eCd51
  | 52 => eCd52
  | 53 => eCd53
  | 54 => eCd54
  | 55 => eCd55
  | 56 => eCd56
  | 57 => eCd57
  | 58 => eCd58
  | 59 => eCd59
  | 60 => eCd60
  | 61 => eCd61
  | 62 => eCd62
  | 63 => eCd63
  | 64 => eCd64
  | 65 => eCd65
  | 66 => eCd66
  | 67 => eCd67
  | 68 => eCd68
  | 69 => eCd69
  | 70 => eCd70
  | 71 => eCd71
  | 72 => eCd72
  | 73 => eCd73
  | 74 => eCd74
  | 75 => eCd75
  | 76 => eCd76
  | 77 => eCd77
  | 78 => eCd78
  | 79 => eCd79
  | 80 => eCd80
  | 81 => eCd81
  | 82 => eCd82
  | 83 => eCd83
  | 84 => eCd84
  | 85 => eCd85
  | 86 => eCd86
  | 87 => eCd87
  | 88 => eCd88
  | 89 => eCd89
  | 90 => eCd90
  | 91 => eCd91
  | 92 => eCd92
  | 93 => eCd93
  | 94 => eCd94
  | 95 => eCd95
  | 96 => eCd96
  | 97 => eCd97
  | 98 => eCd98
  | 99 => eCd99
  | 100 => eCd100
  | 101 => eCd101
  | 102 => eCd102
  | 103 => eCd103
  | 104 => eCd104
  | 105 => eCd105
  | 106 => eCd106
  | 107 => eCd107
  | 108 => eCd108
  | 109 => eCd109
  | 110 => eCd110
  | 111 => eCd111
  | 112 => eCd112
  | 113 => eCd113
  | 114 => eCd114
  | 115 => eCd115
  | 116 => eCd116
  | 117 => eCd117
  | 118 => eCd118
  | 119 => eCd119
  | 120 => eCd120
  | 121 => eCd121
  | 122 => eCd122
  | 123 => eCd123
  | 124 => eCd124
  | 125 => eCd125
  | 126 => eCd126
  | 127 => eCd127
  | 128 => eCd128
  | 129 => eCd129
  | 130 => eCd130
  | 131 => eCd131
  | 132 => eCd132
  | 133 => eCd133
  | 134 => eCd134
  | 135 => eCd135
  | 136 => eCd136
  | 137 => eCd137
  | 138 => eCd138
  | 139 => eCd139
  | 140 => eCd140
  | 141 => eCd141
  | 142 => eCd142
  | 143 => eCd143
  | 144 => eCd144
  | 145 => eCd145
  | 146 => eCd146
  | 147 => eCd147
  | 148 => eCd148
  | 149 => eCd149
  | 150 => eCd150
  | 151 => eCd151
  | 152 => eCd152
  | 153 => eCd153
  | 154 => eCd154
  | 155 => eCd155
  | 156 => eCd156
  | 157 => eCd157
  | 158 => eCd158
  | 159 => eCd159
  | 160 => eCd160
  | 161 => eCd161
  | 162 => eCd162
  | 163 => eCd163
  | 164 => eCd164
  | 165 => eCd165
  | 166 => eCd166
  | 167 => eCd167
  | 168 => eCd168
  | 169 => eCd169
  | 170 => eCd170
  | 171 => eCd171
  | 172 => eCd172
  | 173 => eCd173
  | 174 => eCd174
  | 175 => eCd175
  | 176 => eCd176
  | 177 => eCd177
  | 178 => eCd178
  | 179 => eCd179
  | 180 => eCd180
  | 181 => eCd181
  | 182 => eCd182
  | 183 => eCd183
  | 184 => eCd184
  | 185 => eCd185
  | 186 => eCd186
  | 187 => eCd187
  | 188 => eCd188
  | 189 => eCd189
  | 190 => eCd190
  | 191 => eCd191
  | 192 => eCd192
  | 193 => eCd193
  | 194 => eCd194
  | 195 => eCd195
  | 196 => eCd196
  | 197 => eCd197
  | 198 => eCd198
  | 199 => eCd199
  | 200 => eCd200
  | 201 => eCd201
  | 202 => eCd202
  | _ => []
def eLf : Nat → List (Nat × Nat × Nat)
  | 0 => [(9, 0, 0), (15, 4, 6), (27, 4, 1), (30, 4, 8), (33, 4, 9)]
  | 1 => [(11, 1, 0), (15, 1, 1), (18, 1, 2), (21, 1, 3), (24, 1, 4), (27, 1, 5), (30, 1, 6), (33, 1, 7), (36, 1, 8), (39, 1, 9), (43, 1, 10), (46, 1, 11), (49, 1, 12), (58, 4, 10), (65, 4, 6), (68, 4, 0), (71, 4, 2), (78, 4, 1)]
  | 2 => [(11, 2, 0), (15, 2, 1), (19, 2, 2)]
  | 3 => [(9, 3, 0), (19, 3, 1), (23, 3, 2), (40, 4, 6), (65, 4, 8)]
  | 4 => [(9, 4, 0), (13, 4, 1), (16, 4, 2), (19, 4, 3), (22, 4, 4), (25, 4, 5), (28, 4, 11), (32, 4, 6), (39, 4, 7), (42, 4, 8), (45, 4, 9), (54, 4, 10)]
  | 5 => [(13, 5, 0), (17, 5, 1), (20, 5, 2), (23, 5, 3), (27, 5, 4), (30, 5, 5), (33, 5, 6), (36, 5, 7), (39, 5, 14), (43, 5, 15), (46, 5, 16), (57, 5, 8), (60, 5, 12), (64, 4, 8), (67, 5, 10), (70, 5, 9), (123, 4, 9), (126, 4, 10), (104, 4, 6), (142, 4, 1), (147, 5, 11), (150, 4, 11), (81, 5, 13), (107, 4, 3)]
  | 6 => [(10, 6, 0), (16, 6, 1), (19, 6, 2), (25, 6, 3), (32, 6, 4), (39, 6, 5), (46, 6, 6), (53, 6, 7), (85, 4, 6), (92, 4, 0), (96, 4, 1), (99, 4, 2), (102, 4, 3), (105, 4, 4), (108, 4, 8), (121, 4, 7), (124, 4, 10), (127, 4, 11), (130, 4, 9), (144, 3, 1), (165, 3, 2), (193, 5, 8), (197, 5, 9), (200, 5, 7), (203, 5, 10), (240, 6, 8)]
  | 7 => [(7, 7, 0), (13, 7, 5), (17, 7, 6), (20, 7, 8), (23, 7, 13), (26, 7, 14), (29, 7, 15), (33, 7, 16), (36, 7, 17), (40, 7, 18), (43, 7, 19), (46, 7, 20), (49, 7, 21), (52, 7, 22), (55, 7, 23), (58, 7, 24), (61, 7, 25), (64, 7, 26), (67, 7, 27), (70, 7, 29), (73, 7, 30), (76, 7, 31), (79, 7, 32), (82, 7, 33), (86, 7, 35), (89, 7, 1), (110, 7, 2), (121, 7, 7), (126, 7, 4), (129, 7, 3), (147, 7, 9), (150, 7, 10), (177, 7, 11), (171, 7, 12), (262, 7, 28), (279, 7, 34)]
  | 8 => []
  | 9 => []
  | 10 => []
  | 11 => []
  | 12 => []
  | 13 => []
  | _ => []
def eLfp : Nat → List (Nat)
  | 0 => [297, 115, 102, 123, 126]
  | 1 => [251, 252, 253, 254, 255, 256, 257, 258, 259, 260, 261, 262, 263, 130, 113, 97, 105, 100]
  | 2 => [307, 308, 309]
  | 3 => [169, 170, 172, 117, 124]
  | 4 => [96, 99, 104, 107, 110, 112, 134, 116, 120, 125, 129, 133]
  | 5 => [188, 189, 190, 191, 192, 193, 194, 195, 206, 207, 208, 197, 204, 121, 201, 199, 128, 132, 118, 103, 203, 136, 205, 109]
  | 6 => [318, 319, 320, 321, 322, 323, 324, 325, 114, 98, 101, 106, 108, 111, 122, 119, 131, 135, 127, 171, 173, 198, 200, 196, 202, 326]
  | 7 => [944, 949, 950, 952, 957, 958, 959, 960, 961, 962, 963, 964, 965, 966, 967, 968, 969, 970, 971, 973, 974, 975, 976, 977, 979, 945, 946, 951, 948, 947, 953, 954, 955, 956, 972, 978]
  | 8 => []
  | 9 => []
  | 10 => []
  | 11 => []
  | 12 => []
  | 13 => []
  | _ => []
def eLn : Nat → List (Nat × Nat)
  | 0 => []
  | 1 => []
  | 2 => []
  | 3 => []
  | 4 => []
  | 5 => []
  | 6 => [(7, 4), (22, 3), (29, 5), (36, 1), (43, 0), (50, 2)]
  | 7 => []
  | 8 => []
  | 9 => []
  | 10 => []
  | 11 => []
  | 12 => []
  | 13 => [(7, 6), (10, 7)]
  | _ => []
def eLnp : Nat → List (Nat)
  | 0 => []
  | 1 => []
  | 2 => []
  | 3 => []
  | 4 => []
  | 5 => []
  | 6 => [90, 163, 182, 245, 291, 301]
  | 7 => []
  | 8 => []
  | 9 => []
  | 10 => []
  | 11 => []
  | 12 => []
  | 13 => [82, 937]
  | _ => []
def eLk : Nat → List (Nat × Int32)
  | 0 => []
  | 1 => [(99, 1000000)]
  | 2 => []
  | 3 => []
  | 4 => []
  | 5 => []
  | 6 => []
  | 7 => [(39, 65536), (212, 1000000)]
  | 8 => []
  | 9 => [(265, 1431655765), (266, 858993459), (267, 252645135)]
  | 10 => []
  | 11 => []
  | 12 => []
  | 13 => []
  | _ => []
def eLkp : Nat → List (Nat)
  | 0 => []
  | 1 => [748]
  | 2 => []
  | 3 => []
  | 4 => []
  | 5 => []
  | 6 => []
  | 7 => [943, 1209]
  | 8 => []
  | 9 => [832, 833, 834]
  | 10 => []
  | 11 => []
  | 12 => []
  | 13 => []
  | _ => []
def eLl : Nat → List (Nat × Int64)
  | 0 => []
  | 1 => []
  | 2 => []
  | 3 => [(13, 255), (15, 32), (17, 126)]
  | 4 => []
  | 5 => []
  | 6 => []
  | 7 => [(96, 3), (98, 99), (108, 5), (124, 999), (139, 8), (141, 255), (143, 32), (145, 126), (157, 48), (159, 57), (223, -1), (243, 60), (266, 2)]
  | 8 => []
  | 9 => []
  | 10 => []
  | 11 => []
  | 12 => []
  | 13 => [(40, 4294967295)]
  | _ => []
def eLlp : Nat → List (Nat)
  | 0 => []
  | 1 => []
  | 2 => []
  | 3 => [425, 426, 427]
  | 4 => []
  | 5 => []
  | 6 => []
  | 7 => [1057, 1061, 1074, 1094, 1115, 1116, 1117, 1118, 1139, 1140, 1196, 1246, 1284]
  | 8 => []
  | 9 => []
  | 10 => []
  | 11 => []
  | 12 => []
  | 13 => [1320]
  | _ => []
def eLs : Nat → List (Nat × Nat)
  | 0 => []
  | 1 => [(52, 76), (94, 84), (108, 37)]
  | 2 => [(26, 109), (22, 110), (37, 119)]
  | 3 => [(72, 39), (75, 37)]
  | 4 => [(85, 37)]
  | 5 => [(117, 65), (153, 68), (171, 36), (180, 37), (84, 100), (91, 102), (97, 99), (100, 101)]
  | 6 => [(57, 8), (61, 9), (64, 10), (67, 11), (133, 27), (217, 89), (231, 103), (234, 36), (260, 109), (267, 110)]
  | 7 => [(92, 130), (113, 136), (205, 161), (256, 179), (259, 180), (268, 184), (275, 188)]
  | 8 => []
  | 9 => []
  | 10 => [(13, 66), (304, 37)]
  | 11 => [(637, 199)]
  | 12 => [(88, 200), (92, 36), (38, 37), (95, 201)]
  | 13 => []
  | _ => []
def eLsp : Nat → List (Nat × Nat × Nat)
  | 0 => []
  | 1 => [(724, 725, 80), (757, 758, 76), (768, 496, 76)]
  | 2 => [(859, 860, 71), (862, 863, 71), (898, 899, 80)]
  | 3 => [(554, 555, 67), (557, 496, 76)]
  | 4 => [(641, 496, 76)]
  | 5 => [(671, 672, 80), (681, 682, 80), (702, 493, 76), (711, 496, 76), (821, 822, 68), (829, 830, 81), (818, 819, 68), (824, 825, 68)]
  | 6 => [(350, 351, 66), (353, 354, 66), (356, 357, 66), (359, 360, 66), (422, 423, 67), (777, 778, 70), (835, 836, 68), (838, 493, 76), (893, 860, 71), (905, 863, 71)]
  | 7 => [(1058, 1059, 72), (1083, 1084, 72), (1189, 1190, 72), (1263, 1264, 72), (1266, 1267, 72), (1281, 1282, 72), (1297, 1298, 72)]
  | 8 => []
  | 9 => []
  | 10 => [(674, 675, 80), (691, 496, 76)]
  | 11 => [(486, 487, 75)]
  | 12 => [(489, 490, 75), (492, 493, 76), (495, 496, 76), (498, 499, 75)]
  | 13 => []
  | _ => []
def eLv : Nat → List (Nat × Nat)
  | 0 => [(19, 91), (23, 92), (36, 94), (40, 95), (44, 52), (48, 58)]
  | 1 => [(61, 77), (74, 54), (81, 78), (84, 81), (87, 85), (91, 86), (100, 82), (104, 83), (111, 87)]
  | 2 => [(30, 111), (33, 112)]
  | 3 => [(28, 34), (32, 35), (36, 40), (53, 194), (58, 38), (62, 41), (43, 42), (68, 15), (47, 23)]
  | 4 => [(35, 13), (67, 12), (71, 53), (75, 48), (78, 20), (82, 56), (57, 54), (61, 55), (64, 49)]
  | 5 => [(49, 13), (53, 61), (73, 71), (110, 62), (113, 64), (129, 67), (133, 63), (136, 20), (139, 56), (143, 54), (145, 55), (163, 69), (167, 70), (176, 72), (77, 98)]
  | 6 => [(70, 12), (74, 14), (78, 15), (82, 16), (89, 18), (111, 20), (114, 22), (117, 23), (137, 28), (140, 29), (147, 31), (151, 32), (154, 33), (158, 43), (168, 44), (162, 46), (171, 48), (175, 49), (178, 51), (182, 52), (186, 58), (190, 60), (206, 75), (210, 79), (213, 80), (220, 90), (224, 93), (227, 97), (243, 107), (247, 113), (250, 108), (253, 114), (256, 115), (263, 118), (270, 111), (273, 121), (276, 123), (280, 126), (283, 112), (287, 127)]
  | 7 => [(100, 131), (104, 132), (117, 135), (132, 141), (136, 142), (180, 145), (153, 147), (174, 146), (168, 150), (161, 148), (165, 149), (197, 153), (201, 154), (190, 155), (194, 156), (184, 157), (187, 158), (208, 160), (225, 163), (220, 164), (216, 166), (213, 165), (237, 169), (240, 173), (231, 170), (234, 172), (228, 171), (245, 175), (249, 176), (253, 178), (271, 187), (282, 190)]
  | 8 => []
  | 9 => []
  | 10 => []
  | 11 => [(633, 195), (492, 196), (505, 197), (335, 198)]
  | 12 => []
  | 13 => [(13, 7), (17, 129), (18, 17), (22, 133), (23, 19), (27, 134), (28, 21), (31, 137), (32, 24), (35, 138), (36, 25), (39, 139), (42, 26), (46, 143), (47, 30), (51, 144), (52, 45), (55, 151), (56, 47), (59, 140), (60, 50), (63, 152), (64, 57), (67, 159), (68, 59), (71, 162), (72, 73), (75, 167), (76, 74), (79, 168), (80, 88), (83, 174), (84, 96), (87, 177), (88, 104), (91, 181), (92, 105), (95, 182), (96, 106), (100, 189), (101, 116), (104, 191), (105, 117), (109, 183), (110, 120), (113, 185), (114, 122), (118, 186), (119, 124), (122, 192), (123, 125), (126, 193)]
  | _ => []
def eLvp : Nat → List (Nat × Nat × Nat × Nat)
  | 0 => [(784, 786, 24, 70), (788, 790, 25, 70), (796, 798, 26, 70), (802, 804, 27, 70), (800, 611, 612, 66), (801, 638, 639, 66)]
  | 1 => [(727, 729, 16, 69), (731, 619, 620, 66), (732, 734, 17, 69), (744, 746, 18, 69), (760, 762, 21, 69), (764, 766, 22, 69), (749, 751, 19, 69), (753, 755, 20, 69), (769, 771, 23, 69)]
  | 2 => [(865, 866, 867, 71), (869, 870, 871, 71)]
  | 3 => [(455, 457, 0, 67), (460, 462, 1, 67), (558, 560, 3, 67), (464, 465, 466, 74), (550, 552, 2, 67), (562, 564, 4, 67), (566, 568, 5, 67), (570, 375, 376, 66), (588, 407, 408, 66)]
  | 4 => [(366, 367, 368, 66), (609, 363, 364, 66), (614, 615, 616, 66), (626, 594, 595, 66), (627, 395, 396, 66), (628, 629, 630, 66), (618, 619, 620, 66), (622, 623, 624, 66), (632, 598, 599, 66)]
  | 5 => [(650, 367, 368, 66), (651, 653, 7, 68), (703, 705, 14, 68), (655, 657, 8, 68), (667, 669, 10, 68), (677, 679, 11, 68), (659, 661, 9, 68), (665, 395, 396, 66), (666, 629, 630, 66), (663, 619, 620, 66), (664, 623, 624, 66), (694, 696, 12, 68), (698, 700, 13, 68), (707, 709, 15, 68), (814, 816, 28, 68)]
  | 6 => [(362, 363, 364, 66), (370, 371, 372, 66), (374, 375, 376, 66), (378, 379, 380, 68), (386, 387, 388, 66), (394, 395, 396, 66), (402, 403, 404, 66), (406, 407, 408, 66), (428, 429, 430, 67), (432, 433, 434, 67), (440, 441, 442, 66), (447, 448, 449, 66), (451, 452, 453, 67), (571, 573, 6, 65), (575, 576, 577, 67), (584, 585, 586, 67), (593, 594, 595, 66), (597, 598, 599, 66), (605, 606, 607, 66), (610, 611, 612, 66), (637, 638, 639, 66), (646, 647, 648, 68), (720, 721, 722, 69), (736, 737, 738, 69), (740, 741, 742, 69), (780, 781, 782, 70), (792, 793, 794, 70), (810, 811, 812, 68), (851, 853, 29, 65), (873, 875, 30, 65), (855, 856, 857, 71), (877, 879, 31, 65), (881, 882, 883, 71), (894, 895, 896, 71), (906, 866, 867, 71), (907, 908, 909, 71), (915, 916, 917, 71), (927, 928, 929, 71), (931, 870, 871, 71), (932, 933, 934, 71)]
  | 7 => [(1062, 1064, 32, 72), (1066, 1068, 33, 72), (1079, 1081, 34, 72), (1103, 1105, 35, 72), (1107, 1109, 36, 72), (1123, 1125, 37, 72), (1131, 1133, 39, 72), (1127, 1129, 38, 72), (1145, 1147, 42, 72), (1135, 1137, 40, 72), (1141, 1143, 41, 72), (1157, 1159, 43, 72), (1161, 1163, 44, 72), (1165, 1167, 45, 72), (1169, 1171, 46, 72), (1173, 1175, 47, 72), (1177, 1179, 48, 72), (1185, 1187, 49, 72), (1197, 1199, 50, 72), (1201, 1203, 51, 72), (1210, 1212, 53, 72), (1205, 1207, 52, 72), (1222, 1224, 54, 72), (1238, 1240, 58, 72), (1226, 1228, 55, 72), (1234, 1236, 57, 72), (1230, 1232, 56, 72), (1247, 1249, 59, 72), (1251, 1253, 60, 72), (1259, 1261, 61, 72), (1293, 1295, 62, 72), (1304, 1306, 63, 72)]
  | 8 => []
  | 9 => []
  | 10 => []
  | 11 => [(468, 469, 470, 74), (472, 473, 474, 74), (478, 479, 480, 74), (482, 483, 484, 74)]
  | 12 => []
  | 13 => [(346, 347, 348, 65), (1053, 1054, 1055, 72), (382, 383, 384, 65), (1070, 1071, 1072, 72), (390, 391, 392, 65), (1075, 1076, 1077, 72), (398, 399, 400, 65), (1086, 1087, 1088, 72), (410, 411, 412, 65), (1090, 1091, 1092, 72), (414, 415, 416, 65), (1095, 1096, 1097, 72), (418, 419, 420, 65), (1111, 1112, 1113, 72), (436, 437, 438, 65), (1119, 1120, 1121, 72), (580, 581, 582, 65), (1149, 1150, 1151, 72), (589, 590, 591, 65), (1099, 1100, 1101, 72), (601, 602, 603, 65), (1153, 1154, 1155, 72), (633, 634, 635, 65), (1181, 1182, 1183, 72), (642, 643, 644, 65), (1192, 1193, 1194, 72), (712, 713, 714, 65), (1214, 1215, 1216, 72), (716, 717, 718, 65), (1218, 1219, 1220, 72), (773, 774, 775, 65), (1242, 1243, 1244, 72), (806, 807, 808, 65), (1255, 1256, 1257, 72), (839, 840, 841, 65), (1269, 1270, 1271, 72), (843, 844, 845, 65), (1273, 1274, 1275, 72), (847, 848, 849, 65), (1300, 1301, 1302, 72), (885, 886, 887, 65), (1308, 1309, 1310, 72), (889, 890, 891, 65), (1277, 1278, 1279, 72), (901, 902, 903, 65), (1285, 1286, 1287, 72), (911, 912, 913, 65), (1289, 1290, 1291, 72), (919, 920, 921, 65), (1312, 1313, 1314, 72), (923, 924, 925, 65), (1316, 1317, 1318, 72)]
  | _ => []
def eLi : Nat → List (Nat × Nat)
  | 0 => []
  | 1 => []
  | 2 => []
  | 3 => []
  | 4 => []
  | 5 => []
  | 6 => []
  | 7 => []
  | 8 => []
  | 9 => []
  | 10 => []
  | 11 => []
  | 12 => []
  | 13 => [(9, 0), (12, 128)]
  | _ => []
def eLip : Nat → List (Nat × Nat × Nat)
  | 0 => []
  | 1 => []
  | 2 => []
  | 3 => []
  | 4 => []
  | 5 => []
  | 6 => []
  | 7 => []
  | 8 => []
  | 9 => []
  | 10 => []
  | 11 => []
  | 12 => []
  | 13 => [(84, 85, 65), (939, 940, 72)]
  | _ => []
def eLm : Nat → List (Nat × Nat)
  | 0 => []
  | 1 => []
  | 2 => []
  | 3 => []
  | 4 => []
  | 5 => []
  | 6 => [(9, 1), (24, 2), (31, 3), (38, 4), (45, 5), (52, 6)]
  | 7 => []
  | 8 => []
  | 9 => []
  | 10 => []
  | 11 => []
  | 12 => []
  | 13 => []
  | _ => []
def eLmp : Nat → List (Nat × Nat × Nat)
  | 0 => []
  | 1 => []
  | 2 => []
  | 3 => []
  | 4 => []
  | 5 => []
  | 6 => [(92, 93, 66), (165, 166, 67), (184, 185, 68), (247, 248, 69), (293, 294, 70), (303, 304, 71)]
  | 7 => []
  | 8 => []
  | 9 => []
  | 10 => []
  | 11 => []
  | 12 => []
  | 13 => []
  | _ => []
def eOi : List (Nat × Nat) := [(6, 1), (4, 1), (3, 1), (5, 5), (1, 3), (0, 1), (2, 3), (7, 1)]
def eOip : List Nat := [87, 95, 168, 187, 250, 296, 306, 942]
def eAc : List (Nat × Nat) := [(4, 48), (5, 157), (10, 150), (2, 43)]
def eAcp : List Nat := [444, 693, 692, 936]
def eMp : List Nat := [86, 94, 167, 186, 249, 295, 305, 349, 352, 355, 358, 361, 365, 369, 373, 377, 381, 385, 389, 393, 397, 401, 405, 409, 413, 417, 421, 424, 431, 435, 439, 443, 450, 454, 458, 463, 494, 497, 553, 556, 561, 565, 569, 574, 578, 583, 587, 592, 596, 600, 604, 608, 613, 617, 621, 625, 631, 636, 640, 645, 649, 654, 658, 662, 670, 673, 676, 680, 683, 697, 701, 706, 710, 715, 719, 723, 726, 730, 735, 739, 743, 747, 752, 756, 759, 763, 767, 772, 776, 779, 783, 787, 791, 795, 799, 805, 809, 813, 817, 820, 823, 826, 831, 837, 842, 846, 850, 854, 858, 861, 864, 868, 872, 876, 880, 884, 888, 892, 897, 900, 904, 910, 914, 918, 922, 926, 930, 935, 941, 1056, 1060, 1065, 1069, 1073, 1078, 1082, 1085, 1089, 1093, 1098, 1102, 1106, 1110, 1114, 1122, 1126, 1130, 1134, 1138, 1144, 1148, 1152, 1156, 1160, 1164, 1168, 1172, 1176, 1180, 1184, 1188, 1191, 1195, 1200, 1204, 1208, 1213, 1217, 1221, 1225, 1229, 1233, 1237, 1241, 1245, 1250, 1254, 1258, 1262, 1265, 1268, 1272, 1276, 1280, 1283, 1288, 1292, 1296, 1299, 1303, 1307, 1311, 1315, 1319, 467, 471, 475, 481, 485, 488, 491, 500, 0]
