/-! printed by wip/gen/emit_names2.py: methods, links, words -/
def allY_0 : List (MethodName) := [⟨"", "", ""⟩, ⟨"QuiverKin$Asker", "<init>", "()V"⟩, ⟨"QuiverKin$Flier", "<init>", "()V"⟩, ⟨"java/lang/Math", "max", "(II)I"⟩, ⟨"QuiverKin$Pairs", "<init>", "(I)V"⟩, ⟨"QuiverKin$Table", "<init>", "()V"⟩, ⟨"QuiverKin$House", "<init>", "()V"⟩, ⟨"QuiverKin$Reader", "<init>", "(LQuiverKin$Tape;)V"⟩, ⟨"QuiverKin$Rounds", "<init>", "()V"⟩, ⟨"QuiverKin$Rows", "marked", "(III)I"⟩, ⟨"QuiverKin$Rows", "<init>", "()V"⟩, ⟨"QuiverKin$Tape", "<init>", "()V"⟩, ⟨"QuiverKin", "<init>", "()V"⟩, ⟨"QuiverKin", "about", "(I)I"⟩, ⟨"QuiverKin", "within", "(III)Z"⟩, ⟨"QuiverKin", "get", "([II)I"⟩, ⟨"java/lang/Integer", "bitCount", "(I)I"⟩, ⟨"QuiverKin$Rows", "replyOf", "(II)I"⟩, ⟨"QuiverKin", "answer", "(II)I"⟩, ⟨"QuiverKin", "put", "([III)V"⟩, ⟨"java/util/Arrays", "fill", "([II)V"⟩, ⟨"QuiverKin$Rows", "mostAlike", "(II)I"⟩, ⟨"QuiverKin$Rows", "bestAsked", "()I"⟩, ⟨"QuiverKin$Rows", "fitsAll", "(ILQuiverKin$Pairs;)Z"⟩, ⟨"QuiverKin$Rows", "sift", "(LQuiverKin$Pairs;)V"⟩, ⟨"QuiverKin", "ask", "()I"⟩, ⟨"QuiverKin$Table", "has", "(I)Z"⟩, ⟨"QuiverKin", "at", "(I)I"⟩, ⟨"QuiverKin$House", "copyAll", "([I[I)V"⟩, ⟨"QuiverKin$House", "stepAt", "(I)LQuiverKin$Table;"⟩, ⟨"QuiverKin$Pairs", "become", "(LQuiverKin$Pairs;)V"⟩, ⟨"QuiverKin$Table", "returnTo", "(LQuiverKin$Table;I)V"⟩, ⟨"QuiverKin$Table", "become", "(LQuiverKin$Table;)V"⟩, ⟨"QuiverKin$House", "become", "(LQuiverKin$House;)V"⟩, ⟨"QuiverKin", "back", "()I"⟩, ⟨"QuiverKin", "widthOf", "(II)I"⟩, ⟨"QuiverKin", "bitten", "(III)I"⟩, ⟨"QuiverKin", "isLosing", "(I)Z"⟩, ⟨"QuiverKin", "isShape", "(I)Z"⟩, ⟨"QuiverKin", "bite", "(IZ)I"⟩]
def allY_1 : List (MethodName) := [⟨"QuiverKin$Table", "dinnerOf", "(I)I"⟩, ⟨"QuiverKin$Table", "stuckOf", "(I)I"⟩, ⟨"QuiverKin$Table", "throughOf", "(I)I"⟩, ⟨"QuiverKin$Table", "whoOf", "(I)I"⟩, ⟨"QuiverKin", "book", "(II)I"⟩, ⟨"QuiverKin", "by", "(I)Z"⟩, ⟨"QuiverKin$Table", "whoKeptNone", "()I"⟩, ⟨"QuiverKin", "calm", "()I"⟩, ⟨"QuiverKin$Flier", "meets", "(I)Z"⟩, ⟨"QuiverKin$Flier", "stepsOn", "()Z"⟩, ⟨"QuiverKin$Flier", "ends", "([III)Z"⟩, ⟨"QuiverKin$Flier", "rimCell", "(II)I"⟩, ⟨"QuiverKin", "comes", "(II)I"⟩, ⟨"QuiverKin$House", "textOf", "(I)LQuiverKin$Text;"⟩, ⟨"QuiverKin$House", "law", "()LQuiverKin$Text;"⟩, ⟨"QuiverKin$House", "saveStep", "()V"⟩, ⟨"QuiverKin$Table", "whoFrom", "(II)I"⟩, ⟨"QuiverKin$Asker", "named", "(ILQuiverKin$Table;I)I"⟩, ⟨"QuiverKin$Asker", "ofOne", "(IILQuiverKin$Table;)I"⟩, ⟨"QuiverKin$Asker", "capped", "(J)I"⟩, ⟨"QuiverKin$Asker", "ofTwo", "(III)I"⟩, ⟨"QuiverKin$Kind", "isName", "(I)Z"⟩, ⟨"QuiverKin$Asker", "takesNone", "(I)Z"⟩, ⟨"QuiverKin$Asker", "takesOne", "(I)Z"⟩, ⟨"QuiverKin$Asker", "run", "([IILQuiverKin$Table;I)I"⟩, ⟨"java/lang/Math", "min", "(II)I"⟩, ⟨"QuiverKin$Asker", "bearsOf", "(LQuiverKin$Text;LQuiverKin$Table;I)I"⟩, ⟨"QuiverKin$Asker", "reachesOf", "(LQuiverKin$Text;LQuiverKin$Table;I)I"⟩, ⟨"QuiverKin$Table", "draw", "()I"⟩, ⟨"QuiverKin$Table", "isStrapped", "(I)Z"⟩, ⟨"QuiverKin$Table", "keepOneMore", "(I)I"⟩, ⟨"QuiverKin$Table", "write", "(I)V"⟩, ⟨"QuiverKin$Table", "letLoose", "(I)V"⟩, ⟨"QuiverKin$Table", "passDinner", "(LQuiverKin$Text;LQuiverKin$Asker;)I"⟩, ⟨"QuiverKin$House", "dine", "(ILQuiverKin$Asker;)I"⟩, ⟨"QuiverKin", "dinner", "(I)I"⟩, ⟨"QuiverKin$Table", "canPutDown", "(II)Z"⟩, ⟨"QuiverKin$Table", "putDown", "(II)V"⟩, ⟨"QuiverKin", "down", "(II)Z"⟩, ⟨"QuiverKin", "end", "(I)I"⟩]
def allY_2 : List (MethodName) := [⟨"QuiverKin", "fault", "(I)I"⟩, ⟨"QuiverKin$Tape", "addFour", "(I)V"⟩, ⟨"QuiverKin", "feed", "(IIIII)I"⟩, ⟨"QuiverKin", "fit", "(I)I"⟩, ⟨"QuiverKin", "fits", "()I"⟩, ⟨"QuiverKin", "flight", "(III)I"⟩, ⟨"QuiverKin", "foretold", "(II)I"⟩, ⟨"QuiverKin$Table", "whoKeptMost", "()I"⟩, ⟨"QuiverKin", "fullest", "()I"⟩, ⟨"QuiverKin", "gain", "(IIII)Z"⟩, ⟨"QuiverKin", "game", "(II)I"⟩, ⟨"QuiverKin$Pairs", "add", "(II)I"⟩, ⟨"QuiverKin$Pairs", "clear", "()I"⟩, ⟨"QuiverKin", "guess", "(III)I"⟩, ⟨"QuiverKin", "hedge", "(II)Z"⟩, ⟨"QuiverKin", "image", "()I"⟩, ⟨"QuiverKin$Table", "keptOfAll", "()I"⟩, ⟨"QuiverKin", "is", "(I)I"⟩, ⟨"QuiverKin$Table", "seatOneMore", "(II)I"⟩, ⟨"QuiverKin", "kin", "(II)I"⟩, ⟨"QuiverKin", "sumOf", "([II)I"⟩, ⟨"QuiverKin", "leastSet", "(I)I"⟩, ⟨"QuiverKin", "least", "(IZ)I"⟩, ⟨"QuiverKin$Table", "linesOf", "(I)I"⟩, ⟨"QuiverKin", "ledger", "(I)I"⟩, ⟨"QuiverKin$Rounds", "spiteOf", "([II[I)I"⟩, ⟨"QuiverKin$Rounds", "spiteAround", "(LQuiverKin$House;)I"⟩, ⟨"QuiverKin$Rounds", "exchange", "(II)V"⟩, ⟨"QuiverKin$Rounds", "spiteSwapped", "(LQuiverKin$House;II)I"⟩, ⟨"QuiverKin$Rounds", "seekMend", "(LQuiverKin$House;)V"⟩, ⟨"QuiverKin", "mend", "(I)I"⟩, ⟨"QuiverKin", "gainOf", "(III)I"⟩, ⟨"QuiverKin", "lowest", "(JJJ)J"⟩, ⟨"QuiverKin", "unlikeSigns", "(II)Z"⟩, ⟨"java/lang/Math", "abs", "(I)I"⟩, ⟨"QuiverKin", "mixed", "(ZZ)I"⟩, ⟨"QuiverKin", "near", "(IIIZ)J"⟩, ⟨"QuiverKin", "of", "(II)I"⟩, ⟨"QuiverKin$Table", "canReach", "(I)Z"⟩, ⟨"QuiverKin", "reach", "(I)I"⟩]
def allY_3 : List (MethodName) := [⟨"QuiverKin$Table", "turnStrap", "(I)V"⟩, ⟨"QuiverKin", "strap", "(I)Z"⟩, ⟨"QuiverKin$Table", "canSwap", "(II)Z"⟩, ⟨"QuiverKin$Table", "swapSeats", "(II)V"⟩, ⟨"QuiverKin", "swap", "(II)Z"⟩, ⟨"QuiverKin", "done", "(III)Z"⟩, ⟨"QuiverKin", "played", "(I)I"⟩, ⟨"QuiverKin", "rests", "()I"⟩, ⟨"QuiverKin$Rounds", "turnToNextRow", "(I)Z"⟩, ⟨"QuiverKin$Rounds", "weigh", "(I)V"⟩, ⟨"QuiverKin$Rounds", "weighAll", "(LQuiverKin$House;)V"⟩, ⟨"QuiverKin", "round", "(Z)I"⟩, ⟨"QuiverKin", "saying", "(II)I"⟩, ⟨"QuiverKin", "seating", "(I)I"⟩, ⟨"QuiverKin", "seatings", "()I"⟩, ⟨"QuiverKin", "spite", "(III)Z"⟩, ⟨"QuiverKin", "spiteNow", "()I"⟩, ⟨"QuiverKin$House", "keepText", "(LQuiverKin$Text;)I"⟩, ⟨"QuiverKin$Reader", "kind", "()I"⟩, ⟨"QuiverKin$Kind", "opensClause", "(I)Z"⟩, ⟨"QuiverKin$Reader", "fail", "(I)V"⟩, ⟨"QuiverKin$Reader", "openClause", "()I"⟩, ⟨"QuiverKin$Reader", "expect", "(I)V"⟩, ⟨"QuiverKin$Reader", "number", "(II)I"⟩, ⟨"QuiverKin$Reader", "emit", "(II)I"⟩, ⟨"QuiverKin$Kind", "opensOne", "(I)Z"⟩, ⟨"QuiverKin$Reader", "readName", "(I)V"⟩, ⟨"QuiverKin$Kind", "isComparison", "(I)Z"⟩, ⟨"QuiverKin$Reader", "leapToHere", "(I)V"⟩, ⟨"QuiverKin$Reader", "readOne", "(I)V"⟩, ⟨"QuiverKin$Reader", "readProduct", "(I)V"⟩, ⟨"QuiverKin$Reader", "readSum", "(I)V"⟩, ⟨"QuiverKin$Reader", "readAsk", "(I)V"⟩, ⟨"QuiverKin$Reader", "readBoth", "(I)V"⟩, ⟨"QuiverKin$Reader", "readEither", "(I)V"⟩, ⟨"QuiverKin$Reader", "readChoice", "(I)V"⟩, ⟨"QuiverKin$Reader", "readOpen", "(II)V"⟩, ⟨"", "", ""⟩, ⟨"", "", ""⟩, ⟨"", "", ""⟩]
def allY_4 : List (MethodName) := [⟨"", "", ""⟩, ⟨"", "", ""⟩, ⟨"", "", ""⟩, ⟨"", "", ""⟩, ⟨"", "", ""⟩, ⟨"", "", ""⟩, ⟨"", "", ""⟩, ⟨"", "", ""⟩, ⟨"", "", ""⟩, ⟨"", "", ""⟩, ⟨"", "", ""⟩, ⟨"", "", ""⟩, ⟨"", "", ""⟩, ⟨"", "", ""⟩, ⟨"", "", ""⟩, ⟨"", "", ""⟩, ⟨"", "", ""⟩, ⟨"", "", ""⟩, ⟨"", "", ""⟩, ⟨"", "", ""⟩, ⟨"", "", ""⟩, ⟨"", "", ""⟩, ⟨"", "", ""⟩, ⟨"", "", ""⟩, ⟨"", "", ""⟩, ⟨"", "", ""⟩, ⟨"", "", ""⟩, ⟨"", "", ""⟩, ⟨"", "", ""⟩, ⟨"", "", ""⟩, ⟨"", "", ""⟩, ⟨"", "", ""⟩, ⟨"", "", ""⟩, ⟨"", "", ""⟩, ⟨"", "", ""⟩, ⟨"", "", ""⟩, ⟨"", "", ""⟩, ⟨"", "", ""⟩, ⟨"", "", ""⟩, ⟨"", "", ""⟩]
def allY_5 : List (MethodName) := [⟨"", "", ""⟩, ⟨"", "", ""⟩, ⟨"", "", ""⟩, ⟨"", "", ""⟩, ⟨"", "", ""⟩, ⟨"", "", ""⟩, ⟨"", "", ""⟩, ⟨"", "", ""⟩, ⟨"", "", ""⟩, ⟨"", "", ""⟩, ⟨"", "", ""⟩, ⟨"", "", ""⟩, ⟨"", "", ""⟩, ⟨"", "", ""⟩, ⟨"", "", ""⟩, ⟨"", "", ""⟩, ⟨"", "", ""⟩, ⟨"", "", ""⟩, ⟨"", "", ""⟩, ⟨"", "", ""⟩, ⟨"", "", ""⟩, ⟨"", "", ""⟩, ⟨"", "", ""⟩, ⟨"", "", ""⟩, ⟨"", "", ""⟩, ⟨"", "", ""⟩, ⟨"", "", ""⟩, ⟨"", "", ""⟩, ⟨"", "", ""⟩, ⟨"QuiverKin$Reader", "readLaw", "(I)V"⟩, ⟨"QuiverKin$Reader", "readClause", "(I)V"⟩, ⟨"QuiverKin$Tape", "addToken", "(III)V"⟩, ⟨"QuiverKin$Tape", "byteAt", "(I)I"⟩, ⟨"QuiverKin$Tape", "isDigit", "(I)Z"⟩, ⟨"QuiverKin$Tape", "cutNumber", "(I)I"⟩, ⟨"java/lang/String", "isLatin1", "()Z"⟩, ⟨"java/lang/String", "coder", "()B"⟩, ⟨"java/lang/String", "length", "()I"⟩, ⟨"java/lang/StringLatin1", "canEncode", "(I)Z"⟩, ⟨"java/lang/StringLatin1", "indexOfChar", "([BIII)I"⟩]
def allY_6 : List (MethodName) := [⟨"java/lang/StringLatin1", "indexOf", "([BIII)I"⟩, ⟨"java/lang/String", "indexOf", "(II)I"⟩, ⟨"java/lang/String", "indexOf", "(I)I"⟩, ⟨"QuiverKin$Tape", "cutSign", "(I)I"⟩, ⟨"QuiverKin$Tape", "isLetter", "(I)Z"⟩, ⟨"jdk/internal/util/Preconditions", "checkIndex", "(IILjava/util/function/BiFunction;)I"⟩, ⟨"java/lang/String", "checkIndex", "(II)V"⟩, ⟨"java/lang/StringLatin1", "charAt", "([BI)C"⟩, ⟨"java/lang/String", "charAt", "(I)C"⟩, ⟨"QuiverKin$Tape", "wordKind", "(II)I"⟩, ⟨"QuiverKin$Tape", "cutWord", "(I)I"⟩, ⟨"QuiverKin$Tape", "cutIntoTokens", "()V"⟩, ⟨"QuiverKin$Text", "<init>", "([I[III)V"⟩, ⟨"java/util/Arrays", "copyOf", "([II)[I"⟩, ⟨"QuiverKin$Reader", "readTape", "()LQuiverKin$Text;"⟩, ⟨"QuiverKin", "text", "()I"⟩, ⟨"QuiverKin", "told", "(II)I"⟩, ⟨"QuiverKin$House", "takeBack", "()I"⟩, ⟨"QuiverKin", "undo", "()I"⟩, ⟨"QuiverKin", "agrees", "(LQuiverKin$Text;)Z"⟩, ⟨"QuiverKin", "whose", "()I"⟩, ⟨"QuiverKin", "changeOne", "(LQuiverKin$Table;III)V"⟩, ⟨"QuiverKin", "passYear", "(I)V"⟩, ⟨"QuiverKin", "years", "(II)I"⟩, ⟨"QuiverKinModel", "copy", "([I[I)V"⟩, ⟨"QuiverKinModel", "<init>", "()V"⟩, ⟨"QuiverKinModel", "isIn", "(III)Z"⟩, ⟨"QuiverKinModel", "about", "(I)I"⟩, ⟨"QuiverKinModel", "digitOf", "(II)I"⟩, ⟨"QuiverKinModel", "countOf", "(II)I"⟩, ⟨"QuiverKinModel", "answerOf", "(II)I"⟩, ⟨"QuiverKinModel", "isRow", "(I)Z"⟩, ⟨"QuiverKinModel", "answer", "(II)I"⟩, ⟨"QuiverKinModel", "isFitting", "(II)Z"⟩, ⟨"QuiverKinModel", "layFits", "()I"⟩, ⟨"QuiverKinModel", "mostAlike", "(II)I"⟩, ⟨"QuiverKinModel", "ask", "()I"⟩, ⟨"QuiverKinModel", "isKin", "(I)Z"⟩, ⟨"QuiverKinModel", "whoAt", "(I)I"⟩, ⟨"QuiverKinModel", "at", "(I)I"⟩]
def allY_7 : List (MethodName) := [⟨"QuiverKinModel", "back", "()I"⟩, ⟨"QuiverKinModel", "rowOf", "(II)I"⟩, ⟨"QuiverKinModel", "bitten", "(III)I"⟩, ⟨"QuiverKinModel", "biteOf", "(I)I"⟩, ⟨"QuiverKinModel", "isShape", "(I)Z"⟩, ⟨"QuiverKinModel", "layWins", "(I)V"⟩, ⟨"QuiverKinModel", "bite", "(IZ)I"⟩, ⟨"QuiverKinModel", "lineOf", "(II)I"⟩, ⟨"QuiverKinModel", "book", "(II)I"⟩, ⟨"QuiverKinModel", "by", "(I)Z"⟩, ⟨"QuiverKinModel", "calm", "()I"⟩, ⟨"QuiverKinModel", "isFlight", "(II)Z"⟩, ⟨"QuiverKinModel", "nextBy", "(II)I"⟩, ⟨"QuiverKinModel", "turnedBy", "(II)I"⟩, ⟨"QuiverKinModel", "isFlown", "(II)Z"⟩, ⟨"QuiverKinModel", "isInwards", "(II)Z"⟩, ⟨"QuiverKinModel", "comes", "(II)I"⟩, ⟨"QuiverKinModel", "keep", "()V"⟩, ⟨"QuiverKinModel", "further", "(II)I"⟩, ⟨"QuiverKinModel", "name", "(I)V"⟩, ⟨"QuiverKinModel", "held", "(JII)I"⟩, ⟨"QuiverKinModel", "isAsked", "(IJJ)Z"⟩, ⟨"QuiverKinModel", "joined", "(IZZ)Z"⟩, ⟨"QuiverKinModel", "acrossOf", "(I)I"⟩, ⟨"QuiverKinModel", "ofOne", "(IJ)J"⟩, ⟨"QuiverKinModel", "clip", "(J)J"⟩, ⟨"QuiverKinModel", "two", "(IJJ)J"⟩, ⟨"QuiverKinModel", "summedUp", "(II)J"⟩, ⟨"QuiverKinModel", "says", "(IIII)I"⟩, ⟨"QuiverKinModel", "bearsOf", "(I)I"⟩, ⟨"QuiverKinModel", "anew", "()V"⟩, ⟨"QuiverKinModel", "drawnBy", "(I)I"⟩, ⟨"QuiverKinModel", "has", "(II)Z"⟩, ⟨"QuiverKinModel", "isStrapped", "(I)Z"⟩, ⟨"QuiverKinModel", "more", "(I)V"⟩, ⟨"QuiverKinModel", "write", "(III)V"⟩, ⟨"QuiverKinModel", "looseNow", "(I)V"⟩, ⟨"QuiverKinModel", "reachesOf", "(II)I"⟩, ⟨"QuiverKinModel", "pass", "()V"⟩, ⟨"QuiverKinModel", "arePassed", "(I)Z"⟩]
def allY_8 : List (MethodName) := [⟨"QuiverKinModel", "dinner", "(I)I"⟩, ⟨"QuiverKinModel", "canDown", "(II)Z"⟩, ⟨"QuiverKinModel", "down", "(II)Z"⟩, ⟨"QuiverKinModel", "end", "(I)I"⟩, ⟨"QuiverKinModel", "fault", "(I)I"⟩, ⟨"QuiverKinModel", "four", "(I)V"⟩, ⟨"QuiverKinModel", "feed", "(IIIII)I"⟩, ⟨"QuiverKinModel", "fit", "(I)I"⟩, ⟨"QuiverKinModel", "fits", "()I"⟩, ⟨"QuiverKinModel", "flight", "(III)I"⟩, ⟨"QuiverKinModel", "foretold", "(II)I"⟩, ⟨"QuiverKinModel", "fullest", "()I"⟩, ⟨"QuiverKinModel", "gain", "(IIII)Z"⟩, ⟨"QuiverKinModel", "game", "(II)I"⟩, ⟨"QuiverKinModel", "guess", "(III)I"⟩, ⟨"QuiverKinModel", "hedge", "(II)Z"⟩, ⟨"QuiverKinModel", "image", "()I"⟩, ⟨"QuiverKinModel", "is", "(I)I"⟩, ⟨"QuiverKinModel", "begin", "(I)V"⟩, ⟨"QuiverKinModel", "kin", "(II)I"⟩, ⟨"QuiverKinModel", "bits", "(I)I"⟩, ⟨"QuiverKinModel", "sumOf", "(II)I"⟩, ⟨"QuiverKinModel", "least", "(IZ)I"⟩, ⟨"QuiverKinModel", "ledger", "(I)I"⟩, ⟨"QuiverKinModel", "spiteOfRow", "()I"⟩, ⟨"QuiverKinModel", "spiteOfSeats", "()I"⟩, ⟨"QuiverKinModel", "swapNow", "(II)V"⟩, ⟨"QuiverKinModel", "mend", "(I)I"⟩, ⟨"QuiverKinModel", "divisor", "(II)I"⟩, ⟨"QuiverKinModel", "gainOf", "(III)I"⟩, ⟨"QuiverKinModel", "upOf", "(Z)I"⟩, ⟨"QuiverKinModel", "lowOf", "(Z)I"⟩, ⟨"QuiverKinModel", "isBetween", "(Z)Z"⟩, ⟨"QuiverKinModel", "mixed", "(ZZ)I"⟩, ⟨"QuiverKinModel", "longDivisor", "(JJ)J"⟩, ⟨"QuiverKinModel", "waysOf", "(III)J"⟩, ⟨"QuiverKinModel", "near", "(IIIZ)J"⟩, ⟨"QuiverKinModel", "of", "(II)I"⟩, ⟨"QuiverKinModel", "reach", "(I)I"⟩, ⟨"QuiverKinModel", "strap", "(I)Z"⟩]
def allY_9 : List (MethodName) := [⟨"QuiverKinModel", "swap", "(II)Z"⟩, ⟨"QuiverKinModel", "isPlayed", "(I)Z"⟩, ⟨"QuiverKinModel", "played", "(I)I"⟩, ⟨"QuiverKinModel", "rests", "()I"⟩, ⟨"QuiverKinModel", "factorial", "(I)I"⟩, ⟨"QuiverKinModel", "layRow", "(I)V"⟩, ⟨"QuiverKinModel", "seatingsInAll", "()I"⟩, ⟨"QuiverKinModel", "layBest", "()V"⟩, ⟨"QuiverKinModel", "round", "(Z)I"⟩, ⟨"QuiverKinModel", "saying", "(II)I"⟩, ⟨"QuiverKinModel", "seating", "(I)I"⟩, ⟨"QuiverKinModel", "seatings", "()I"⟩, ⟨"QuiverKinModel", "spite", "(III)Z"⟩, ⟨"QuiverKinModel", "spiteNow", "()I"⟩, ⟨"QuiverKinModel", "byteAt", "(I)I"⟩, ⟨"QuiverKinModel", "isFigure", "(I)Z"⟩, ⟨"QuiverKinModel", "isLetterByte", "(I)Z"⟩, ⟨"QuiverKinModel", "isSign", "(I)Z"⟩, ⟨"QuiverKinModel", "nextToken", "()V"⟩, ⟨"QuiverKinModel", "figure", "(III)I"⟩, ⟨"QuiverKinModel", "emit", "(II)V"⟩, ⟨"QuiverKinModel", "openAt", "()I"⟩, ⟨"QuiverKinModel", "openNow", "()I"⟩, ⟨"QuiverKinModel", "rank", "(I)I"⟩, ⟨"QuiverKinModel", "isAskAhead", "()Z"⟩, ⟨"QuiverKinModel", "isOf", "(I)Z"⟩, ⟨"QuiverKinModel", "isWord", "(J)Z"⟩, ⟨"QuiverKinModel", "w2", "(II)J"⟩, ⟨"QuiverKinModel", "w3", "(III)J"⟩, ⟨"QuiverKinModel", "w4", "(IIII)J"⟩, ⟨"QuiverKinModel", "w5", "(IIIII)J"⟩, ⟨"QuiverKinModel", "w6", "(IIIIII)J"⟩, ⟨"QuiverKinModel", "nameOf", "()I"⟩, ⟨"QuiverKinModel", "opened", "(I)I"⟩, ⟨"QuiverKinModel", "settle", "(I)V"⟩, ⟨"QuiverKinModel", "beginOne", "()I"⟩, ⟨"QuiverKinModel", "compareOf", "()I"⟩, ⟨"QuiverKinModel", "isCompared", "()Z"⟩, ⟨"QuiverKinModel", "betweenOf", "()I"⟩, ⟨"QuiverKinModel", "partOf", "(I)I"⟩]
def allY_10 : List (MethodName) := [⟨"QuiverKinModel", "behindOne", "()Z"⟩, ⟨"QuiverKinModel", "summed", "()I"⟩, ⟨"QuiverKinModel", "lawClause", "(I)I"⟩, ⟨"QuiverKinModel", "pair", "(IIJII)I"⟩, ⟨"QuiverKinModel", "body", "(II)I"⟩, ⟨"QuiverKinModel", "isReaches", "()Z"⟩, ⟨"QuiverKinModel", "sortOf", "()I"⟩, ⟨"QuiverKinModel", "clause", "()I"⟩, ⟨"QuiverKinModel", "readText", "()I"⟩, ⟨"QuiverKinModel", "text", "()I"⟩, ⟨"QuiverKinModel", "told", "(II)I"⟩, ⟨"QuiverKinModel", "undo", "()I"⟩, ⟨"QuiverKinModel", "whose", "()I"⟩, ⟨"QuiverKinModel", "happensTo", "(II)V"⟩, ⟨"QuiverKinModel", "years", "(II)I"⟩, ⟨"QuiverKinLaw", "law", "([I)Z"⟩]
def allY : List (MethodName) := allY_0 ++ (allY_1 ++ (allY_2 ++ (allY_3 ++ (allY_4 ++ (allY_5 ++ (allY_6 ++ (allY_7 ++ (allY_8 ++ (allY_9 ++ (allY_10))))))))))
def allB_0 : List (ByteArray) := [⟨#[]⟩, prog_2_method_1_code, prog_3_method_1_code, prog_18_method_65_code, prog_6_method_1_code, prog_10_method_1_code, prog_4_method_1_code, prog_7_method_1_code, prog_8_method_1_code, prog_9_method_2_code, prog_9_method_1_code, prog_11_method_1_code, prog_1_method_1_code, prog_1_method_63_code, prog_1_method_64_code, prog_1_method_65_code, prog_17_method_49_code, prog_9_method_3_code, prog_1_method_37_code, prog_1_method_66_code, prog_23_method_103_code, prog_9_method_7_code, prog_9_method_6_code, prog_9_method_5_code, prog_9_method_4_code, prog_1_method_40_code, prog_10_method_5_code, prog_1_method_20_code, prog_4_method_3_code, prog_4_method_7_code, prog_6_method_4_code, prog_10_method_3_code, prog_10_method_2_code, prog_4_method_2_code, prog_1_method_62_code, prog_1_method_55_code, prog_1_method_56_code, prog_1_method_57_code, prog_1_method_54_code, prog_1_method_53_code]
def allB_1 : List (ByteArray) := [prog_10_method_19_code, prog_10_method_22_code, prog_10_method_21_code, prog_10_method_20_code, prog_1_method_22_code, prog_1_method_7_code, prog_10_method_26_code, prog_1_method_24_code, prog_3_method_4_code, prog_3_method_3_code, prog_3_method_2_code, prog_3_method_5_code, prog_1_method_35_code, prog_4_method_5_code, prog_4_method_6_code, prog_4_method_8_code, prog_10_method_14_code, prog_2_method_7_code, prog_2_method_8_code, prog_2_method_10_code, prog_2_method_9_code, prog_5_method_3_code, prog_2_method_5_code, prog_2_method_6_code, prog_2_method_4_code, prog_18_method_69_code, prog_2_method_3_code, prog_2_method_2_code, prog_10_method_15_code, prog_10_method_6_code, prog_10_method_10_code, prog_10_method_18_code, prog_10_method_17_code, prog_10_method_16_code, prog_4_method_10_code, prog_1_method_12_code, prog_10_method_8_code, prog_10_method_11_code, prog_1_method_9_code, prog_1_method_4_code]
def allB_2 : List (ByteArray) := [prog_1_method_6_code, prog_11_method_2_code, prog_1_method_3_code, prog_1_method_39_code, prog_1_method_38_code, prog_1_method_34_code, prog_1_method_26_code, prog_10_method_25_code, prog_1_method_23_code, prog_1_method_41_code, prog_1_method_52_code, prog_6_method_3_code, prog_6_method_2_code, prog_1_method_36_code, prog_1_method_33_code, prog_1_method_61_code, prog_10_method_24_code, prog_1_method_21_code, prog_10_method_4_code, prog_1_method_2_code, prog_1_method_49_code, prog_1_method_48_code, prog_1_method_47_code, prog_10_method_23_code, prog_1_method_25_code, prog_8_method_6_code, prog_8_method_7_code, prog_8_method_5_code, prog_8_method_9_code, prog_8_method_8_code, prog_1_method_32_code, prog_1_method_42_code, prog_1_method_51_code, prog_1_method_45_code, prog_18_method_59_code, prog_1_method_44_code, prog_1_method_50_code, prog_1_method_19_code, prog_10_method_7_code, prog_1_method_8_code]
def allB_3 : List (ByteArray) := [prog_10_method_12_code, prog_1_method_10_code, prog_10_method_9_code, prog_10_method_13_code, prog_1_method_11_code, prog_1_method_14_code, prog_1_method_13_code, prog_1_method_43_code, prog_8_method_4_code, prog_8_method_3_code, prog_8_method_2_code, prog_1_method_28_code, prog_1_method_46_code, prog_1_method_29_code, prog_1_method_30_code, prog_1_method_27_code, prog_1_method_31_code, prog_4_method_4_code, prog_7_method_3_code, prog_5_method_5_code, prog_7_method_4_code, prog_7_method_7_code, prog_7_method_5_code, prog_7_method_6_code, prog_7_method_10_code, prog_5_method_4_code, prog_7_method_15_code, prog_5_method_2_code, prog_7_method_11_code, prog_7_method_14_code, prog_7_method_13_code, prog_7_method_12_code, prog_7_method_20_code, prog_7_method_19_code, prog_7_method_18_code, prog_7_method_17_code, prog_7_method_16_code, ⟨#[]⟩, ⟨#[]⟩, ⟨#[]⟩]
def allB_4 : List (ByteArray) := [⟨#[]⟩, ⟨#[]⟩, ⟨#[]⟩, ⟨#[]⟩, ⟨#[]⟩, ⟨#[]⟩, ⟨#[]⟩, ⟨#[]⟩, ⟨#[]⟩, ⟨#[]⟩, ⟨#[]⟩, ⟨#[]⟩, ⟨#[]⟩, ⟨#[]⟩, ⟨#[]⟩, ⟨#[]⟩, ⟨#[]⟩, ⟨#[]⟩, ⟨#[]⟩, ⟨#[]⟩, ⟨#[]⟩, ⟨#[]⟩, ⟨#[]⟩, ⟨#[]⟩, ⟨#[]⟩, ⟨#[]⟩, ⟨#[]⟩, ⟨#[]⟩, ⟨#[]⟩, ⟨#[]⟩, ⟨#[]⟩, ⟨#[]⟩, ⟨#[]⟩, ⟨#[]⟩, ⟨#[]⟩, ⟨#[]⟩, ⟨#[]⟩, ⟨#[]⟩, ⟨#[]⟩, ⟨#[]⟩]
def allB_5 : List (ByteArray) := [⟨#[]⟩, ⟨#[]⟩, ⟨#[]⟩, ⟨#[]⟩, ⟨#[]⟩, ⟨#[]⟩, ⟨#[]⟩, ⟨#[]⟩, ⟨#[]⟩, ⟨#[]⟩, ⟨#[]⟩, ⟨#[]⟩, ⟨#[]⟩, ⟨#[]⟩, ⟨#[]⟩, ⟨#[]⟩, ⟨#[]⟩, ⟨#[]⟩, ⟨#[]⟩, ⟨#[]⟩, ⟨#[]⟩, ⟨#[]⟩, ⟨#[]⟩, ⟨#[]⟩, ⟨#[]⟩, ⟨#[]⟩, ⟨#[]⟩, ⟨#[]⟩, ⟨#[]⟩, prog_7_method_9_code, prog_7_method_8_code, prog_11_method_5_code, prog_11_method_3_code, prog_11_method_10_code, prog_11_method_6_code, prog_19_method_154_code, prog_19_method_152_code, prog_19_method_54_code, prog_20_method_4_code, prog_20_method_23_code]
def allB_6 : List (ByteArray) := [prog_20_method_22_code, prog_19_method_80_code, prog_19_method_79_code, prog_11_method_9_code, prog_11_method_11_code, prog_24_method_11_code, prog_19_method_155_code, prog_20_method_2_code, prog_19_method_56_code, prog_11_method_8_code, prog_11_method_7_code, prog_11_method_4_code, prog_12_method_1_code, prog_23_method_123_code, prog_7_method_2_code, prog_1_method_5_code, prog_1_method_58_code, prog_4_method_9_code, prog_1_method_18_code, prog_1_method_60_code, prog_1_method_59_code, prog_1_method_17_code, prog_1_method_16_code, prog_1_method_15_code, prog_14_method_2_code, prog_14_method_1_code, prog_14_method_3_code, prog_14_method_151_code, prog_14_method_114_code, prog_14_method_115_code, prog_14_method_116_code, prog_14_method_117_code, prog_14_method_119_code, prog_14_method_124_code, prog_14_method_120_code, prog_14_method_123_code, prog_14_method_125_code, prog_14_method_7_code, prog_14_method_9_code, prog_14_method_87_code]
def allB_7 : List (ByteArray) := [prog_14_method_150_code, prog_14_method_140_code, prog_14_method_142_code, prog_14_method_143_code, prog_14_method_141_code, prog_14_method_144_code, prog_14_method_146_code, prog_14_method_89_code, prog_14_method_90_code, prog_14_method_55_code, prog_14_method_93_code, prog_14_method_110_code, prog_14_method_107_code, prog_14_method_108_code, prog_14_method_109_code, prog_14_method_112_code, prog_14_method_113_code, prog_14_method_74_code, prog_14_method_10_code, prog_14_method_63_code, prog_14_method_4_code, prog_14_method_58_code, prog_14_method_60_code, prog_14_method_11_code, prog_14_method_59_code, prog_14_method_56_code, prog_14_method_57_code, prog_14_method_61_code, prog_14_method_62_code, prog_14_method_65_code, prog_14_method_68_code, prog_14_method_67_code, prog_14_method_5_code, prog_14_method_8_code, prog_14_method_69_code, prog_14_method_66_code, prog_14_method_72_code, prog_14_method_64_code, prog_14_method_73_code, prog_14_method_80_code]
def allB_8 : List (ByteArray) := [prog_14_method_81_code, prog_14_method_70_code, prog_14_method_77_code, prog_14_method_17_code, prog_14_method_54_code, prog_14_method_15_code, prog_14_method_16_code, prog_14_method_122_code, prog_14_method_121_code, prog_14_method_111_code, prog_14_method_94_code, prog_14_method_92_code, prog_14_method_126_code, prog_14_method_145_code, prog_14_method_118_code, prog_14_method_106_code, prog_14_method_149_code, prog_14_method_88_code, prog_14_method_13_code, prog_14_method_12_code, prog_14_method_6_code, prog_14_method_135_code, prog_14_method_136_code, prog_14_method_91_code, prog_14_method_98_code, prog_14_method_103_code, prog_14_method_71_code, prog_14_method_105_code, prog_14_method_129_code, prog_14_method_127_code, prog_14_method_130_code, prog_14_method_131_code, prog_14_method_132_code, prog_14_method_133_code, prog_14_method_138_code, prog_14_method_137_code, prog_14_method_139_code, prog_14_method_86_code, prog_14_method_76_code, prog_14_method_78_code]
def allB_9 : List (ByteArray) := [prog_14_method_79_code, prog_14_method_82_code, prog_14_method_83_code, prog_14_method_128_code, prog_14_method_95_code, prog_14_method_97_code, prog_14_method_96_code, prog_14_method_99_code, prog_14_method_100_code, prog_14_method_134_code, prog_14_method_101_code, prog_14_method_102_code, prog_14_method_14_code, prog_14_method_104_code, prog_14_method_18_code, prog_14_method_20_code, prog_14_method_19_code, prog_14_method_21_code, prog_14_method_22_code, prog_14_method_46_code, prog_14_method_29_code, prog_14_method_35_code, prog_14_method_36_code, prog_14_method_33_code, prog_14_method_38_code, prog_14_method_32_code, prog_14_method_28_code, prog_14_method_23_code, prog_14_method_24_code, prog_14_method_25_code, prog_14_method_26_code, prog_14_method_27_code, prog_14_method_31_code, prog_14_method_39_code, prog_14_method_34_code, prog_14_method_40_code, prog_14_method_41_code, prog_14_method_37_code, prog_14_method_42_code, prog_14_method_43_code]
def allB_10 : List (ByteArray) := [prog_14_method_44_code, prog_14_method_45_code, prog_14_method_47_code, prog_14_method_48_code, prog_14_method_49_code, prog_14_method_30_code, prog_14_method_50_code, prog_14_method_51_code, prog_14_method_52_code, prog_14_method_53_code, prog_14_method_147_code, prog_14_method_75_code, prog_14_method_148_code, prog_14_method_84_code, prog_14_method_85_code, code]
def allB : List (ByteArray) := allB_0 ++ (allB_1 ++ (allB_2 ++ (allB_3 ++ (allB_4 ++ (allB_5 ++ (allB_6 ++ (allB_7 ++ (allB_8 ++ (allB_9 ++ (allB_10))))))))))
def allR_0 : List (Option FieldType) := [none, (Option.none : Option FieldType), (Option.none : Option FieldType), (Option.some FieldType.int), (Option.none : Option FieldType), (Option.none : Option FieldType), (Option.none : Option FieldType), (Option.none : Option FieldType), (Option.none : Option FieldType), (Option.some FieldType.int), (Option.none : Option FieldType), (Option.none : Option FieldType), (Option.none : Option FieldType), (Option.some FieldType.int), (Option.some FieldType.boolean), (Option.some FieldType.int), (Option.some FieldType.int), (Option.some FieldType.int), (Option.some FieldType.int), (Option.none : Option FieldType), (Option.none : Option FieldType), (Option.some FieldType.int), (Option.some FieldType.int), (Option.some FieldType.boolean), (Option.none : Option FieldType), (Option.some FieldType.int), (Option.some FieldType.boolean), (Option.some FieldType.int), (Option.none : Option FieldType), (Option.some (FieldType.object "QuiverKin$Table")), (Option.none : Option FieldType), (Option.none : Option FieldType), (Option.none : Option FieldType), (Option.none : Option FieldType), (Option.some FieldType.int), (Option.some FieldType.int), (Option.some FieldType.int), (Option.some FieldType.boolean), (Option.some FieldType.boolean), (Option.some FieldType.int)]
def allR_1 : List (Option FieldType) := [(Option.some FieldType.int), (Option.some FieldType.int), (Option.some FieldType.int), (Option.some FieldType.int), (Option.some FieldType.int), (Option.some FieldType.boolean), (Option.some FieldType.int), (Option.some FieldType.int), (Option.some FieldType.boolean), (Option.some FieldType.boolean), (Option.some FieldType.boolean), (Option.some FieldType.int), (Option.some FieldType.int), (Option.some (FieldType.object "QuiverKin$Text")), (Option.some (FieldType.object "QuiverKin$Text")), (Option.none : Option FieldType), (Option.some FieldType.int), (Option.some FieldType.int), (Option.some FieldType.int), (Option.some FieldType.int), (Option.some FieldType.int), (Option.some FieldType.boolean), (Option.some FieldType.boolean), (Option.some FieldType.boolean), (Option.some FieldType.int), (Option.some FieldType.int), (Option.some FieldType.int), (Option.some FieldType.int), (Option.some FieldType.int), (Option.some FieldType.boolean), (Option.some FieldType.int), (Option.none : Option FieldType), (Option.none : Option FieldType), (Option.some FieldType.int), (Option.some FieldType.int), (Option.some FieldType.int), (Option.some FieldType.boolean), (Option.none : Option FieldType), (Option.some FieldType.boolean), (Option.some FieldType.int)]
def allR_2 : List (Option FieldType) := [(Option.some FieldType.int), (Option.none : Option FieldType), (Option.some FieldType.int), (Option.some FieldType.int), (Option.some FieldType.int), (Option.some FieldType.int), (Option.some FieldType.int), (Option.some FieldType.int), (Option.some FieldType.int), (Option.some FieldType.boolean), (Option.some FieldType.int), (Option.some FieldType.int), (Option.some FieldType.int), (Option.some FieldType.int), (Option.some FieldType.boolean), (Option.some FieldType.int), (Option.some FieldType.int), (Option.some FieldType.int), (Option.some FieldType.int), (Option.some FieldType.int), (Option.some FieldType.int), (Option.some FieldType.int), (Option.some FieldType.int), (Option.some FieldType.int), (Option.some FieldType.int), (Option.some FieldType.int), (Option.some FieldType.int), (Option.none : Option FieldType), (Option.some FieldType.int), (Option.none : Option FieldType), (Option.some FieldType.int), (Option.some FieldType.int), (Option.some FieldType.long), (Option.some FieldType.boolean), (Option.some FieldType.int), (Option.some FieldType.int), (Option.some FieldType.long), (Option.some FieldType.int), (Option.some FieldType.boolean), (Option.some FieldType.int)]
def allR_3 : List (Option FieldType) := [(Option.none : Option FieldType), (Option.some FieldType.boolean), (Option.some FieldType.boolean), (Option.none : Option FieldType), (Option.some FieldType.boolean), (Option.some FieldType.boolean), (Option.some FieldType.int), (Option.some FieldType.int), (Option.some FieldType.boolean), (Option.none : Option FieldType), (Option.none : Option FieldType), (Option.some FieldType.int), (Option.some FieldType.int), (Option.some FieldType.int), (Option.some FieldType.int), (Option.some FieldType.boolean), (Option.some FieldType.int), (Option.some FieldType.int), (Option.some FieldType.int), (Option.some FieldType.boolean), (Option.none : Option FieldType), (Option.some FieldType.int), (Option.none : Option FieldType), (Option.some FieldType.int), (Option.some FieldType.int), (Option.some FieldType.boolean), (Option.none : Option FieldType), (Option.some FieldType.boolean), (Option.none : Option FieldType), (Option.none : Option FieldType), (Option.none : Option FieldType), (Option.none : Option FieldType), (Option.none : Option FieldType), (Option.none : Option FieldType), (Option.none : Option FieldType), (Option.none : Option FieldType), (Option.none : Option FieldType), none, none, none]
def allR_4 : List (Option FieldType) := [none, none, none, none, none, none, none, none, none, none, none, none, none, none, none, none, none, none, none, none, none, none, none, none, none, none, none, none, none, none, none, none, none, none, none, none, none, none, none, none]
def allR_5 : List (Option FieldType) := [none, none, none, none, none, none, none, none, none, none, none, none, none, none, none, none, none, none, none, none, none, none, none, none, none, none, none, none, none, (Option.none : Option FieldType), (Option.none : Option FieldType), (Option.none : Option FieldType), (Option.some FieldType.int), (Option.some FieldType.boolean), (Option.some FieldType.int), (Option.some FieldType.boolean), (Option.some FieldType.byte), (Option.some FieldType.int), (Option.some FieldType.boolean), (Option.some FieldType.int)]
def allR_6 : List (Option FieldType) := [(Option.some FieldType.int), (Option.some FieldType.int), (Option.some FieldType.int), (Option.some FieldType.int), (Option.some FieldType.boolean), (Option.some FieldType.int), (Option.none : Option FieldType), (Option.some FieldType.char), (Option.some FieldType.char), (Option.some FieldType.int), (Option.some FieldType.int), (Option.none : Option FieldType), (Option.none : Option FieldType), (Option.some (FieldType.array FieldType.int)), (Option.some (FieldType.object "QuiverKin$Text")), (Option.some FieldType.int), (Option.some FieldType.int), (Option.some FieldType.int), (Option.some FieldType.int), (Option.some FieldType.boolean), (Option.some FieldType.int), (Option.none : Option FieldType), (Option.none : Option FieldType), (Option.some FieldType.int), (Option.none : Option FieldType), (Option.none : Option FieldType), (Option.some FieldType.boolean), (Option.some FieldType.int), (Option.some FieldType.int), (Option.some FieldType.int), (Option.some FieldType.int), (Option.some FieldType.boolean), (Option.some FieldType.int), (Option.some FieldType.boolean), (Option.some FieldType.int), (Option.some FieldType.int), (Option.some FieldType.int), (Option.some FieldType.boolean), (Option.some FieldType.int), (Option.some FieldType.int)]
def allR_7 : List (Option FieldType) := [(Option.some FieldType.int), (Option.some FieldType.int), (Option.some FieldType.int), (Option.some FieldType.int), (Option.some FieldType.boolean), (Option.none : Option FieldType), (Option.some FieldType.int), (Option.some FieldType.int), (Option.some FieldType.int), (Option.some FieldType.boolean), (Option.some FieldType.int), (Option.some FieldType.boolean), (Option.some FieldType.int), (Option.some FieldType.int), (Option.some FieldType.boolean), (Option.some FieldType.boolean), (Option.some FieldType.int), (Option.none : Option FieldType), (Option.some FieldType.int), (Option.none : Option FieldType), (Option.some FieldType.int), (Option.some FieldType.boolean), (Option.some FieldType.boolean), (Option.some FieldType.int), (Option.some FieldType.long), (Option.some FieldType.long), (Option.some FieldType.long), (Option.some FieldType.long), (Option.some FieldType.int), (Option.some FieldType.int), (Option.none : Option FieldType), (Option.some FieldType.int), (Option.some FieldType.boolean), (Option.some FieldType.boolean), (Option.none : Option FieldType), (Option.none : Option FieldType), (Option.none : Option FieldType), (Option.some FieldType.int), (Option.none : Option FieldType), (Option.some FieldType.boolean)]
def allR_8 : List (Option FieldType) := [(Option.some FieldType.int), (Option.some FieldType.boolean), (Option.some FieldType.boolean), (Option.some FieldType.int), (Option.some FieldType.int), (Option.none : Option FieldType), (Option.some FieldType.int), (Option.some FieldType.int), (Option.some FieldType.int), (Option.some FieldType.int), (Option.some FieldType.int), (Option.some FieldType.int), (Option.some FieldType.boolean), (Option.some FieldType.int), (Option.some FieldType.int), (Option.some FieldType.boolean), (Option.some FieldType.int), (Option.some FieldType.int), (Option.none : Option FieldType), (Option.some FieldType.int), (Option.some FieldType.int), (Option.some FieldType.int), (Option.some FieldType.int), (Option.some FieldType.int), (Option.some FieldType.int), (Option.some FieldType.int), (Option.none : Option FieldType), (Option.some FieldType.int), (Option.some FieldType.int), (Option.some FieldType.int), (Option.some FieldType.int), (Option.some FieldType.int), (Option.some FieldType.boolean), (Option.some FieldType.int), (Option.some FieldType.long), (Option.some FieldType.long), (Option.some FieldType.long), (Option.some FieldType.int), (Option.some FieldType.int), (Option.some FieldType.boolean)]
def allR_9 : List (Option FieldType) := [(Option.some FieldType.boolean), (Option.some FieldType.boolean), (Option.some FieldType.int), (Option.some FieldType.int), (Option.some FieldType.int), (Option.none : Option FieldType), (Option.some FieldType.int), (Option.none : Option FieldType), (Option.some FieldType.int), (Option.some FieldType.int), (Option.some FieldType.int), (Option.some FieldType.int), (Option.some FieldType.boolean), (Option.some FieldType.int), (Option.some FieldType.int), (Option.some FieldType.boolean), (Option.some FieldType.boolean), (Option.some FieldType.boolean), (Option.none : Option FieldType), (Option.some FieldType.int), (Option.none : Option FieldType), (Option.some FieldType.int), (Option.some FieldType.int), (Option.some FieldType.int), (Option.some FieldType.boolean), (Option.some FieldType.boolean), (Option.some FieldType.boolean), (Option.some FieldType.long), (Option.some FieldType.long), (Option.some FieldType.long), (Option.some FieldType.long), (Option.some FieldType.long), (Option.some FieldType.int), (Option.some FieldType.int), (Option.none : Option FieldType), (Option.some FieldType.int), (Option.some FieldType.int), (Option.some FieldType.boolean), (Option.some FieldType.int), (Option.some FieldType.int)]
def allR_10 : List (Option FieldType) := [(Option.some FieldType.boolean), (Option.some FieldType.int), (Option.some FieldType.int), (Option.some FieldType.int), (Option.some FieldType.int), (Option.some FieldType.boolean), (Option.some FieldType.int), (Option.some FieldType.int), (Option.some FieldType.int), (Option.some FieldType.int), (Option.some FieldType.int), (Option.some FieldType.int), (Option.some FieldType.int), (Option.none : Option FieldType), (Option.some FieldType.int), ret]
def allR : List (Option FieldType) := allR_0 ++ (allR_1 ++ (allR_2 ++ (allR_3 ++ (allR_4 ++ (allR_5 ++ (allR_6 ++ (allR_7 ++ (allR_8 ++ (allR_9 ++ (allR_10))))))))))
def allT_0 : List (Bool) := [true, false, false, true, false, false, false, false, false, true, false, false, false, false, true, true, true, false, false, true, true, false, false, false, false, false, false, false, true, false, false, false, false, false, false, true, true, true, true, false]
def allT_1 : List (Bool) := [true, true, true, true, false, false, false, false, false, false, false, true, false, false, false, false, false, true, true, true, true, true, true, true, false, true, false, false, false, false, false, false, false, false, false, false, false, false, false, false]
def allT_2 : List (Bool) := [false, false, false, false, false, false, false, false, false, false, false, false, false, false, false, false, false, false, false, false, true, false, false, false, false, true, false, false, false, false, false, false, true, true, true, false, false, false, false, false]
def allT_3 : List (Bool) := [false, false, false, false, false, false, false, false, false, false, false, false, false, false, false, false, false, false, false, true, false, false, false, false, false, true, false, true, false, false, false, false, false, false, false, false, false, true, true, true]
def allT_4 : List (Bool) := [true, true, true, true, true, true, true, true, true, true, true, true, true, true, true, true, true, true, true, true, true, true, true, true, true, true, true, true, true, true, true, true, true, true, true, true, true, true, true, true]
def allT_5 : List (Bool) := [true, true, true, true, true, true, true, true, true, true, true, true, true, true, true, true, true, true, true, true, true, true, true, true, true, true, true, true, true, false, false, false, false, true, false, false, false, false, true, true]
def allT_6 : List (Bool) := [true, false, false, false, true, true, true, true, false, false, false, false, false, true, false, false, false, false, false, false, false, true, false, false, true, false, true, false, true, true, true, true, false, false, false, false, false, false, false, false]
def allT_7 : List (Bool) := [false, true, true, false, true, false, false, false, false, false, false, true, true, true, false, true, false, false, false, false, true, true, true, false, false, true, true, false, false, false, false, false, true, false, false, false, false, false, false, false]
def allT_8 : List (Bool) := [false, false, false, false, false, false, false, false, false, false, false, false, false, false, false, false, false, false, false, false, true, false, false, false, false, false, false, false, true, false, false, false, false, false, true, true, false, false, false, false]
def allT_9 : List (Bool) := [false, false, false, false, true, false, false, false, false, false, false, false, false, false, false, true, true, true, false, false, false, false, false, true, false, false, false, true, true, true, true, true, false, false, false, false, false, false, false, false]
def allT_10 : List (Bool) := [false, false, false, false, false, false, false, false, false, false, false, false, false, false, false, true]
def allT : List (Bool) := allT_0 ++ (allT_1 ++ (allT_2 ++ (allT_3 ++ (allT_4 ++ (allT_5 ++ (allT_6 ++ (allT_7 ++ (allT_8 ++ (allT_9 ++ (allT_10))))))))))
def allG_0 : List (Nat) := [0, 0, 1, 2, 3, 4, 5, 6, 7, 8, 8, 9, 10, 10, 10, 10, 11, 8, 10, 10, 12, 8, 8, 8, 8, 10, 4, 10, 5, 5, 3, 4, 4, 5, 10, 10, 10, 10, 10, 10]
def allG_1 : List (Nat) := [4, 4, 4, 4, 10, 10, 4, 10, 1, 1, 1, 1, 10, 5, 5, 5, 4, 0, 0, 0, 0, 13, 0, 0, 0, 2, 0, 0, 4, 4, 4, 4, 4, 4, 5, 10, 4, 4, 10, 10]
def allG_2 : List (Nat) := [10, 9, 10, 10, 10, 10, 10, 4, 10, 10, 10, 3, 3, 10, 10, 10, 4, 10, 4, 10, 10, 10, 10, 4, 10, 7, 7, 7, 7, 7, 10, 10, 10, 10, 2, 10, 10, 10, 4, 10]
def allG_3 : List (Nat) := [4, 10, 4, 4, 10, 10, 10, 10, 7, 7, 7, 10, 10, 10, 10, 10, 10, 5, 6, 13, 6, 6, 6, 6, 6, 13, 6, 13, 6, 6, 6, 6, 6, 6, 6, 6, 6, 0, 0, 0]
def allG_4 : List (Nat) := [0, 0, 0, 0, 0, 0, 0, 0, 0, 0, 0, 0, 0, 0, 0, 0, 0, 0, 0, 0, 0, 0, 0, 0, 0, 0, 0, 0, 0, 0, 0, 0, 0, 0, 0, 0, 0, 0, 0, 0]
def allG_5 : List (Nat) := [0, 0, 0, 0, 0, 0, 0, 0, 0, 0, 0, 0, 0, 0, 0, 0, 0, 0, 0, 0, 0, 0, 0, 0, 0, 0, 0, 0, 0, 6, 6, 9, 9, 9, 9, 14, 14, 14, 15, 15]
def allG_6 : List (Nat) := [15, 14, 14, 9, 9, 16, 14, 15, 14, 9, 9, 9, 17, 12, 6, 10, 10, 5, 10, 10, 10, 10, 10, 10, 18, 18, 18, 18, 18, 18, 18, 18, 18, 18, 18, 18, 18, 18, 18, 18]
def allG_7 : List (Nat) := [18, 18, 18, 18, 18, 18, 18, 18, 18, 18, 18, 18, 18, 18, 18, 18, 18, 18, 18, 18, 18, 18, 18, 18, 18, 18, 18, 18, 18, 18, 18, 18, 18, 18, 18, 18, 18, 18, 18, 18]
def allG_8 : List (Nat) := [18, 18, 18, 18, 18, 18, 18, 18, 18, 18, 18, 18, 18, 18, 18, 18, 18, 18, 18, 18, 18, 18, 18, 18, 18, 18, 18, 18, 18, 18, 18, 18, 18, 18, 18, 18, 18, 18, 18, 18]
def allG_9 : List (Nat) := [18, 18, 18, 18, 18, 18, 18, 18, 18, 18, 18, 18, 18, 18, 18, 18, 18, 18, 18, 18, 18, 18, 18, 18, 18, 18, 18, 18, 18, 18, 18, 18, 18, 18, 18, 18, 18, 18, 18, 18]
def allG_10 : List (Nat) := [18, 18, 18, 18, 18, 18, 18, 18, 18, 18, 18, 18, 18, 18, 18, 19]
def allG : List (Nat) := allG_0 ++ (allG_1 ++ (allG_2 ++ (allG_3 ++ (allG_4 ++ (allG_5 ++ (allG_6 ++ (allG_7 ++ (allG_8 ++ (allG_9 ++ (allG_10))))))))))
def allON : List String := ["QuiverKin$Asker", "QuiverKin$Flier", "java/lang/Math", "QuiverKin$Pairs", "QuiverKin$Table", "QuiverKin$House", "QuiverKin$Reader", "QuiverKin$Rounds", "QuiverKin$Rows", "QuiverKin$Tape", "QuiverKin", "java/lang/Integer", "java/util/Arrays", "QuiverKin$Kind", "java/lang/String", "java/lang/StringLatin1", "jdk/internal/util/Preconditions", "QuiverKin$Text", "QuiverKinModel", "QuiverKinLaw"]
def idsT : List Nat := [12, 6, 5, 4, 3, 1, 11, 7, 8, 2, 10, 9, 99, 14, 98, 19, 82, 81, 79, 255, 254, 251, 232, 233, 234, 65, 231, 244, 250, 249, 237, 236, 248, 235, 247, 246, 245, 243, 242, 241, 240, 238, 239, 138, 15, 141, 139, 140, 230, 229, 151, 150, 149, 143, 144, 61, 146, 145, 156, 142, 155, 154, 153, 152, 147, 148, 253, 252, 137, 80, 45, 119, 118, 26, 69, 55, 29, 32, 31, 70, 78, 76, 77, 121, 120, 124, 122, 123, 75, 74, 54, 53, 73, 68, 67, 64, 62, 57, 56, 63, 58, 60, 59, 66, 72, 71, 126, 125, 263, 262, 261, 258, 257, 117, 27, 97, 96, 44, 40, 43, 42, 41, 88, 87, 47, 46, 104, 103, 86, 135, 131, 130, 105, 129, 128, 107, 133, 134, 136, 106, 110, 109, 108, 94, 85, 50, 49, 48, 52, 51, 93, 92, 91, 18, 17, 16, 84, 24, 23, 83, 25, 22, 21, 20, 89, 127, 111, 115, 113, 114, 112, 132, 102, 101, 100, 116, 90, 37, 39, 38, 35, 36, 256, 260, 259, 95, 33, 28, 30, 34, 13, 265, 264, 339, 266, 338, 372, 277, 326, 325, 323, 409, 408, 378, 374, 375, 376, 377, 407, 406, 405, 389, 388, 387, 390, 386, 391, 312, 404, 403, 379, 402, 401, 400, 398, 382, 381, 397, 383, 396, 394, 380, 399, 395, 392, 385, 393, 384, 324, 289, 411, 358, 313, 297, 314, 300, 322, 321, 359, 360, 346, 320, 319, 318, 278, 311, 310, 317, 299, 298, 308, 307, 304, 303, 306, 305, 301, 302, 309, 316, 315, 362, 361, 414, 413, 357, 279, 337, 288, 287, 343, 331, 290, 330, 368, 367, 366, 364, 365, 344, 370, 371, 373, 345, 347, 335, 329, 291, 294, 292, 293, 296, 295, 334, 271, 272, 270, 268, 269, 328, 274, 327, 276, 275, 273, 332, 363, 349, 353, 352, 351, 350, 348, 369, 342, 341, 340, 356, 355, 354, 333, 285, 284, 281, 283, 282, 286, 410, 412, 336, 280, 267]
def idsS : List Nat := [12, 6, 5, 4, 3, 1, 11, 7, 8, 2, 10, 9, 99, 14, 98, 19, 82, 81, 79, 255, 254, 251, 232, 233, 234, 65, 231, 244, 250, 249, 237, 236, 248, 235, 247, 246, 245, 243, 242, 241, 240, 238, 239, 138, 15, 141, 139, 140, 230, 229, 151, 150, 149, 143, 144, 61, 146, 145, 156, 142, 155, 154, 153, 152, 147, 148, 253, 252, 137, 80, 45, 119, 118, 26, 69, 55, 29, 32, 31, 70, 78, 76, 77, 121, 120, 124, 122, 123, 75, 74, 54, 53, 73, 68, 67, 64, 62, 57, 56, 63, 58, 60, 59, 66, 72, 71, 126, 125, 263, 262, 261, 258, 257, 117, 27, 97, 96, 44, 40, 43, 42, 41, 88, 87, 47, 46, 104, 103, 86, 135, 131, 130, 105, 129, 128, 107, 133, 134, 136, 106, 110, 109, 108, 94, 85, 50, 49, 48, 52, 51, 93, 92, 91, 18, 17, 16, 84, 24, 23, 83, 25, 22, 21, 20, 89, 127, 111, 115, 113, 114, 112, 132, 102, 101, 100, 116, 90, 37, 39, 38, 35, 36, 256, 260, 259, 95, 33, 28, 30, 34, 13, 265, 264, 339, 266, 338, 372, 277, 326, 325, 323, 409, 408, 378, 374, 375, 376, 377, 407, 406, 405, 389, 388, 387, 390, 386, 391, 312, 404, 403, 379, 402, 401, 400, 398, 382, 381, 397, 383, 396, 394, 380, 399, 395, 392, 385, 393, 384, 324, 289, 411, 358, 313, 297, 314, 300, 322, 321, 359, 360, 346, 320, 319, 318, 278, 311, 310, 317, 299, 298, 308, 307, 304, 303, 306, 305, 301, 302, 309, 316, 315, 362, 361, 414, 413, 357, 279, 337, 288, 287, 343, 331, 290, 330, 368, 367, 366, 364, 365, 344, 370, 371, 373, 345, 347, 335, 329, 291, 294, 292, 293, 296, 295, 334, 271, 272, 270, 268, 269, 328, 274, 327, 276, 275, 273, 332, 363, 349, 353, 352, 351, 350, 348, 369, 342, 341, 340, 356, 355, 354, 333, 285, 284, 281, 283, 282, 286, 410, 412, 336, 280, 267]
def idsV : List Nat := [98, 81, 254, 251, 232, 234, 231, 250, 249, 243, 138, 141, 140, 230, 229, 151, 150, 149, 143, 144, 146, 156, 142, 155, 154, 153, 152, 148, 137, 118, 26, 69, 55, 29, 32, 31, 70, 76, 77, 120, 122, 123, 74, 54, 53, 73, 68, 67, 64, 56, 66, 72, 71, 125, 262, 257, 96, 87, 46, 103, 130, 129, 128, 107, 106, 109, 108, 50, 49, 48, 92, 91, 17, 24, 23, 22, 21, 111, 101, 259, 33, 30, 338, 277, 325, 408, 378, 374, 407, 406, 405, 386, 404, 403, 379, 402, 401, 400, 398, 382, 381, 397, 396, 394, 380, 399, 395, 392, 385, 393, 384, 313, 297, 314, 321, 346, 319, 318, 278, 311, 310, 317, 299, 298, 308, 307, 304, 303, 309, 316, 315, 361, 413, 287, 367, 366, 365, 344, 345, 294, 274, 275, 273, 349, 352, 351, 350, 341, 285, 283, 99, 82, 79, 255, 237, 236, 248, 235, 242, 241, 80, 45, 119, 78, 121, 124, 75, 126, 263, 258, 117, 27, 97, 44, 88, 47, 104, 86, 135, 131, 133, 134, 136, 110, 94, 85, 52, 93, 18, 84, 83, 25, 89, 127, 115, 132, 102, 116, 90, 39, 256, 260, 95, 34, 13, 339, 372, 326, 323, 409, 324, 289, 411, 358, 322, 359, 360, 320, 362, 414, 357, 279, 337, 288, 343, 331, 290, 330, 368, 370, 371, 373, 347, 335, 329, 296, 334, 272, 328, 327, 276, 332, 363, 353, 369, 342, 356, 333, 286, 410, 412, 336, 280, 267]
def gsI : List Nat := [10, 5, 4, 3, 2, 0, 9, 6, 7, 1, 8, 18, 14, 15, 16, 13, 17, 12, 11]
def cisI : List Nat := [10, 2, 7, 3, 0, 8, 4, 5, 1, 6, 11, 9]
def cisN : List Nat := [10, 2, 7, 3, 0, 8, 4, 5, 1, 6, 9, 11]
def LY : List (Nat × Nat) := [(7, 0), (7, 1), (7, 2), (7, 3), (7, 4), (7, 5), (7, 6), (7, 7), (7, 8), (7, 9), (3, 0), (3, 1), (3, 2), (2, 0), (2, 1), (2, 2), (2, 3), (2, 4), (2, 5), (2, 6), (2, 7), (2, 8), (2, 9), (2, 10), (2, 11), (2, 12), (0, 0), (8, 0), (8, 1), (8, 2), (8, 3), (8, 4), (8, 5), (4, 0), (4, 1), (4, 2), (4, 3), (4, 4), (4, 5), (4, 6), (4, 7), (4, 8), (4, 9), (4, 10), (5, 0), (5, 1), (5, 2), (5, 3), (5, 4), (5, 5), (5, 6), (5, 7), (1, 0), (1, 1), (1, 2), (1, 3), (6, 0), (6, 1), (6, 2), (6, 3), (10, 0), (10, 1), (10, 2), (10, 3), (10, 4), (10, 5), (10, 6), (10, 7), (10, 8), (9, 0), (9, 1), (9, 2), (9, 3), (11, 0), (11, 1), (11, 2), (11, 3), (11, 4), (11, 5), (11, 6), (11, 7), (11, 8), (11, 9), (11, 10), (11, 11), (11, 12), (11, 13), (11, 14), (11, 15), (11, 16), (11, 17), (11, 18), (11, 19), (11, 20), (11, 21), (11, 22), (11, 23), (11, 24), (11, 25), (11, 26), (11, 27), (11, 28), (11, 29), (11, 30), (11, 31), (11, 32), (11, 33), (11, 34), (11, 35), (11, 36), (11, 37), (11, 38)]
def FL : List (Nat × Nat × Nat × Nat × Bool) := [(4, 9, 7, 0, false), (0, 21, 7, 0, true), (10, 202, 7, 0, true), (4, 15, 7, 1, false), (0, 80, 7, 1, true), (10, 209, 7, 1, true), (4, 18, 7, 2, false), (0, 83, 7, 2, true), (7, 92, 7, 2, true), (10, 212, 7, 2, true), (4, 21, 7, 3, false), (7, 72, 7, 3, true), (10, 228, 7, 3, true), (4, 24, 7, 4, false), (10, 240, 7, 4, true), (4, 31, 7, 5, false), (7, 24, 7, 5, true), (0, 92, 7, 5, true), (5, 89, 7, 5, true), (10, 192, 7, 5, true), (4, 46, 7, 6, false), (10, 234, 7, 6, true), (4, 49, 7, 7, false), (0, 77, 7, 7, true), (5, 96, 7, 7, true), (10, 140, 7, 7, true), (4, 27, 7, 8, false), (10, 175, 7, 8, true), (4, 52, 7, 9, false), (0, 86, 7, 9, true), (10, 237, 7, 9, true), (3, 15, 3, 0, false), (8, 52, 3, 0, true), (10, 382, 3, 0, true), (3, 21, 3, 1, false), (8, 59, 3, 1, true), (10, 389, 3, 1, true), (3, 24, 3, 2, false), (8, 47, 3, 2, true), (10, 388, 3, 2, true), (5, 12, 2, 0, false), (7, 18, 2, 0, true), (10, 74, 2, 0, true), (5, 18, 2, 1, false), (5, 24, 2, 2, false), (5, 28, 2, 3, false), (7, 36, 2, 3, true), (10, 268, 2, 3, true), (5, 32, 2, 4, false), (10, 307, 2, 4, true), (5, 35, 2, 5, false), (10, 357, 2, 5, true), (5, 43, 2, 6, false), (10, 329, 2, 6, true), (5, 47, 2, 7, false), (10, 376, 2, 7, true), (5, 50, 2, 8, false), (10, 415, 2, 8, true), (5, 72, 2, 9, false), (5, 75, 2, 10, false), (10, 424, 2, 10, true), (5, 78, 2, 11, false), (10, 89, 2, 11, true), (5, 53, 2, 12, false), (10, 106, 2, 12, true), (0, 9, 0, 0, false), (9, 9, 8, 0, false), (9, 24, 8, 1, false), (10, 81, 8, 1, true), (9, 15, 8, 2, false), (6, 80, 8, 2, true), (9, 18, 8, 3, false), (6, 93, 8, 3, true), (9, 21, 8, 4, false), (6, 87, 8, 4, true), (6, 77, 8, 5, true), (9, 32, 8, 5, false), (6, 25, 4, 0, false), (6, 9, 4, 1, false), (6, 15, 4, 2, false), (6, 29, 4, 3, false), (6, 32, 4, 4, false), (6, 35, 4, 5, false), (6, 38, 4, 6, false), (6, 114, 4, 7, false), (6, 41, 4, 8, false), (6, 18, 4, 9, false), (10, 100, 4, 9, true), (6, 22, 4, 10, false), (10, 103, 4, 10, true), (7, 9, 5, 0, false), (7, 15, 5, 1, false), (10, 285, 5, 1, true), (7, 57, 5, 2, false), (10, 279, 5, 2, true), (7, 33, 5, 3, false), (10, 282, 5, 3, true), (7, 30, 5, 4, false), (10, 288, 5, 4, true), (7, 75, 5, 5, false), (10, 298, 5, 5, true), (7, 78, 5, 6, false), (10, 301, 5, 6, true), (7, 81, 5, 7, false), (10, 304, 5, 7, true), (1, 9, 1, 0, false), (10, 314, 1, 0, true), (1, 15, 1, 1, false), (10, 317, 1, 1, true), (1, 18, 1, 2, false), (10, 320, 1, 2, true), (1, 21, 1, 3, false), (10, 323, 1, 3, true), (8, 9, 6, 0, false), (8, 15, 6, 1, false), (10, 351, 6, 1, true), (8, 18, 6, 2, false), (8, 35, 6, 3, false), (10, 348, 6, 3, true), (10, 10, 10, 0, false), (10, 16, 10, 1, false), (10, 22, 10, 2, false), (10, 29, 10, 3, false), (10, 36, 10, 4, false), (10, 45, 10, 5, false), (10, 52, 10, 6, false), (10, 59, 10, 7, false), (10, 66, 10, 8, false), (17, 7, 9, 0, false), (10, 151, 9, 0, true), (17, 13, 9, 1, false), (0, 30, 9, 1, true), (17, 16, 9, 2, false), (0, 15, 9, 2, true), (17, 20, 9, 3, false), (0, 46, 9, 3, true), (18, 7, 11, 0, false), (18, 13, 11, 1, false), (18, 16, 11, 2, false), (18, 19, 11, 3, false), (18, 96, 11, 4, false), (18, 22, 11, 5, false), (18, 26, 11, 6, false), (18, 102, 11, 7, false), (18, 108, 11, 8, false), (18, 111, 11, 9, false), (18, 117, 11, 10, false), (18, 124, 11, 11, false), (18, 149, 11, 12, false), (18, 152, 11, 13, false), (18, 159, 11, 14, false), (18, 29, 11, 15, false), (18, 162, 11, 16, false), (18, 172, 11, 17, false), (18, 191, 11, 18, false), (18, 246, 11, 19, false), (18, 32, 11, 20, false), (18, 35, 11, 21, false), (18, 39, 11, 22, false), (18, 43, 11, 23, false), (18, 311, 11, 24, false), (18, 47, 11, 25, false), (18, 50, 11, 26, false), (18, 53, 11, 27, false), (18, 376, 11, 28, false), (18, 379, 11, 29, false), (18, 382, 11, 30, false), (18, 56, 11, 31, false), (18, 400, 11, 32, false), (18, 403, 11, 33, false), (18, 406, 11, 34, false), (18, 409, 11, 35, false), (18, 59, 11, 36, false), (18, 62, 11, 37, false), (18, 65, 11, 38, false), (14, 9, 12, 0, false), (14, 15, 12, 1, false)]
def ML_0 : List (Nat × Nat × Nat × Bool) := [(19, 9, 12, false), (10, 9, 6, true), (5, 11, 5, true), (5, 40, 4, true), (3, 9, 3, false), (10, 21, 5, true), (10, 28, 1, true), (10, 35, 11, true), (10, 42, 7, true), (10, 51, 8, true), (10, 58, 2, true), (10, 65, 10, true), (8, 21, 9, false), (19, 13, 99, false), (10, 70, 14, false), (10, 77, 98, true), (4, 42, 19, true), (19, 18, 82, false), (10, 85, 81, true), (9, 28, 19, true), (19, 23, 79, false), (19, 28, 255, false), (10, 92, 254, true), (6, 44, 251, true), (9, 35, 232, false), (9, 39, 233, false), (9, 43, 234, false), (9, 61, 65, false), (9, 57, 231, false), (9, 46, 244, false), (9, 49, 250, false), (9, 67, 249, false), (9, 72, 237, false), (14, 335, 236, false), (9, 77, 248, false), (14, 492, 235, false), (14, 495, 247, false), (15, 9, 246, false), (14, 1059, 245, false), (9, 52, 243, false)]
def ML_1 : List (Nat × Nat × Nat × Bool) := [(9, 83, 242, false), (14, 633, 241, false), (14, 505, 237, false), (14, 637, 240, false), (15, 88, 238, false), (15, 92, 3, false), (15, 38, 65, false), (15, 95, 239, false), (6, 49, 138, false), (6, 83, 15, true), (6, 55, 141, false), (6, 96, 139, true), (6, 90, 140, false), (6, 58, 230, false), (6, 100, 229, false), (6, 117, 151, false), (6, 128, 150, false), (6, 131, 149, false), (6, 103, 143, false), (6, 62, 14, true), (6, 120, 144, false), (6, 110, 19, true), (6, 123, 65, false), (6, 134, 61, true), (6, 137, 146, false), (6, 140, 145, true), (6, 143, 156, false), (6, 107, 142, false), (6, 147, 155, false), (6, 150, 154, false), (6, 156, 153, false), (6, 159, 152, false), (6, 162, 147, true), (6, 153, 148, false), (6, 68, 253, false), (12, 304, 65, false), (6, 74, 252, true), (10, 96, 137, true), (19, 33, 80, false), (19, 37, 45, false)]
def ML_2 : List (Nat × Nat × Nat × Bool) := [(19, 42, 119, false), (10, 109, 118, true), (4, 55, 26, false), (4, 59, 69, false), (10, 113, 55, true), (5, 61, 29, false), (5, 57, 32, true), (4, 34, 15, true), (4, 38, 31, false), (10, 116, 70, true), (4, 62, 65, false), (19, 46, 78, false), (10, 120, 76, true), (10, 124, 77, true), (19, 51, 121, false), (10, 128, 26, true), (10, 131, 120, true), (19, 55, 124, false), (10, 134, 122, true), (10, 137, 123, true), (19, 59, 75, false), (10, 143, 74, true), (5, 99, 55, false), (5, 102, 54, false), (5, 85, 53, false), (5, 106, 73, true), (4, 68, 68, false), (4, 72, 67, true), (0, 26, 15, true), (0, 33, 64, false), (0, 51, 62, false), (0, 74, 61, true), (0, 55, 57, false), (0, 89, 56, true), (0, 59, 19, true), (0, 63, 63, false), (0, 66, 58, false), (0, 95, 26, true), (0, 70, 60, false), (0, 98, 59, false)]
def ML_3 : List (Nat × Nat × Nat × Bool) := [(0, 37, 65, false), (0, 43, 3, false), (4, 78, 70, false), (4, 82, 66, true), (4, 85, 72, false), (4, 89, 3, false), (4, 92, 56, false), (4, 95, 71, false), (19, 63, 126, false), (10, 147, 53, true), (10, 157, 125, false), (10, 160, 99, false), (10, 163, 119, false), (10, 166, 78, false), (10, 169, 121, false), (10, 172, 124, false), (19, 67, 263, false), (10, 178, 68, true), (10, 182, 262, false), (10, 185, 54, true), (10, 188, 73, true), (10, 195, 261, false), (19, 71, 258, false), (10, 199, 257, true), (5, 92, 31, true), (19, 75, 117, false), (10, 205, 15, false), (10, 215, 69, true), (10, 218, 67, true), (10, 222, 66, true), (10, 225, 56, true), (19, 79, 27, false), (19, 83, 97, false), (10, 231, 96, true), (19, 87, 44, false), (10, 243, 40, true), (10, 246, 43, true), (10, 249, 42, true), (10, 252, 41, true), (19, 198, 88, false)]
def ML_4 : List (Nat × Nat × Nat × Bool) := [(10, 255, 87, true), (19, 202, 47, false), (10, 258, 46, true), (19, 206, 104, false), (10, 261, 103, true), (4, 98, 43, false), (19, 91, 86, false), (10, 264, 32, true), (19, 95, 135, false), (10, 271, 19, false), (19, 100, 131, false), (10, 275, 130, true), (7, 39, 105, false), (7, 60, 15, true), (7, 43, 129, false), (7, 51, 3, false), (7, 47, 128, false), (7, 64, 107, false), (7, 68, 19, true), (19, 105, 133, false), (19, 109, 134, false), (19, 113, 136, false), (10, 291, 106, true), (19, 117, 110, false), (10, 295, 109, true), (7, 84, 106, false), (7, 88, 108, false), (19, 121, 94, false), (19, 125, 85, false), (10, 310, 50, true), (1, 24, 49, false), (1, 36, 14, true), (1, 28, 15, true), (1, 32, 48, false), (19, 130, 52, false), (10, 326, 51, true), (19, 134, 93, false), (10, 333, 92, true), (10, 338, 91, true), (3, 28, 19, true)]
def ML_5 : List (Nat × Nat × Nat × Bool) := [(19, 138, 18, false), (10, 341, 17, true), (8, 25, 15, true), (8, 29, 16, false), (19, 142, 84, false), (10, 344, 24, true), (8, 39, 23, false), (8, 55, 17, false), (8, 43, 19, true), (19, 146, 83, false), (19, 150, 25, false), (10, 354, 22, true), (8, 62, 21, false), (8, 65, 20, false), (8, 71, 3, false), (19, 154, 89, false), (19, 159, 127, false), (10, 360, 111, false), (19, 163, 115, false), (10, 364, 113, false), (10, 367, 114, false), (10, 372, 112, false), (19, 168, 132, false), (19, 172, 102, false), (10, 379, 101, false), (10, 385, 100, false), (10, 392, 16, false), (19, 177, 116, false), (19, 182, 90, false), (10, 399, 37, false), (19, 186, 39, false), (10, 402, 38, false), (10, 405, 35, false), (10, 408, 36, false), (19, 190, 256, false), (19, 194, 260, false), (10, 418, 259, false), (19, 210, 95, false), (10, 422, 33, true), (5, 65, 28, false)]
def ML_6 : List (Nat × Nat × Nat × Bool) := [(5, 81, 15, true), (5, 69, 30, true), (3, 32, 15, true), (19, 214, 34, false), (19, 218, 13, false), (19, 12, 265, false), (18, 68, 264, false), (19, 17, 339, false), (18, 72, 266, false), (18, 88, 338, false), (19, 99, 372, false), (18, 92, 277, false), (19, 22, 326, false), (18, 99, 325, false), (19, 27, 323, false), (19, 32, 409, false), (18, 255, 408, false), (18, 182, 378, false), (18, 105, 374, false), (18, 114, 375, false), (18, 121, 376, false), (18, 130, 377, false), (18, 252, 407, false), (18, 243, 406, false), (18, 240, 405, false), (18, 141, 389, false), (18, 137, 388, false), (18, 133, 387, false), (18, 145, 390, false), (18, 200, 386, false), (18, 155, 391, false), (18, 76, 312, false), (18, 249, 404, false), (18, 233, 403, false), (18, 229, 379, false), (18, 237, 402, false), (18, 226, 401, false), (18, 220, 400, false), (18, 214, 398, false), (18, 179, 382, false)]
def ML_7 : List (Nat × Nat × Nat × Bool) := [(18, 175, 381, false), (18, 208, 397, false), (18, 165, 383, false), (18, 211, 396, false), (18, 194, 394, false), (18, 168, 380, false), (18, 217, 399, false), (18, 223, 395, false), (18, 185, 392, false), (18, 188, 385, false), (18, 197, 393, false), (18, 204, 384, false), (19, 36, 324, false), (19, 41, 289, false), (19, 74, 411, false), (19, 45, 358, false), (18, 318, 313, false), (18, 333, 297, false), (18, 308, 314, false), (18, 288, 300, false), (19, 50, 322, false), (18, 336, 321, false), (19, 54, 359, false), (19, 58, 360, false), (18, 339, 346, false), (19, 62, 320, false), (18, 345, 319, false), (18, 342, 318, false), (18, 80, 278, false), (18, 321, 311, false), (18, 299, 310, false), (18, 324, 317, false), (18, 292, 299, false), (18, 84, 298, false), (18, 295, 308, false), (18, 285, 307, false), (18, 269, 304, false), (18, 266, 303, false), (18, 273, 306, false), (18, 262, 305, false)]
def ML_8 : List (Nat × Nat × Nat × Bool) := [(18, 277, 301, false), (18, 281, 302, false), (18, 327, 309, false), (18, 330, 316, false), (18, 314, 315, false), (19, 66, 362, false), (18, 363, 361, false), (18, 348, 339, false), (18, 351, 358, false), (18, 354, 322, false), (18, 357, 359, false), (18, 360, 360, false), (19, 70, 414, false), (18, 366, 413, false), (19, 78, 357, false), (19, 82, 279, false), (19, 86, 337, false), (19, 90, 288, false), (18, 369, 287, false), (19, 209, 343, false), (19, 201, 331, false), (19, 205, 290, false), (19, 94, 330, false), (19, 104, 368, false), (18, 394, 367, false), (18, 385, 366, false), (18, 372, 364, false), (18, 388, 365, false), (18, 391, 344, false), (19, 108, 370, false), (19, 112, 371, false), (19, 116, 373, false), (18, 397, 345, false), (19, 120, 347, false), (19, 124, 335, false), (19, 129, 329, false), (18, 418, 291, false), (18, 421, 294, false), (18, 412, 292, false), (18, 415, 293, false)]
def ML_9 : List (Nat × Nat × Nat × Bool) := [(19, 133, 296, false), (18, 424, 295, false), (19, 137, 334, false), (18, 433, 271, false), (19, 141, 272, false), (18, 436, 270, false), (18, 427, 268, false), (18, 430, 269, false), (19, 145, 328, false), (18, 439, 274, false), (19, 149, 327, false), (19, 153, 276, false), (18, 442, 275, false), (18, 445, 273, false), (19, 158, 332, false), (19, 162, 363, false), (18, 448, 349, false), (19, 167, 353, false), (18, 458, 352, false), (18, 455, 351, false), (18, 451, 350, false), (18, 462, 348, false), (19, 171, 369, false), (19, 176, 342, false), (18, 465, 341, false), (18, 468, 340, false), (19, 181, 356, false), (18, 473, 355, false), (18, 476, 354, false), (19, 185, 333, false), (18, 492, 285, false), (18, 486, 284, false), (18, 480, 281, false), (18, 489, 283, false), (18, 483, 282, false), (19, 189, 286, false), (19, 193, 410, false), (19, 197, 412, false), (19, 213, 336, false), (19, 217, 280, false)]
def ML_10 : List (Nat × Nat × Nat × Bool) := [(19, 221, 267, false)]
def ML : List (Nat × Nat × Nat × Bool) := ML_0 ++ (ML_1 ++ (ML_2 ++ (ML_3 ++ (ML_4 ++ (ML_5 ++ (ML_6 ++ (ML_7 ++ (ML_8 ++ (ML_9 ++ (ML_10))))))))))
def CL : List (Nat × Nat × Nat) := [(19, 7, 26), (10, 7, 18), (5, 9, 23), (5, 9, 5), (5, 22, 6), (5, 38, 19), (10, 19, 23), (10, 26, 16), (10, 33, 24), (10, 40, 20), (10, 49, 21), (10, 56, 17), (10, 63, 22), (6, 66, 25), (12, 317, 1), (19, 10, 27)]
def KI : List (Nat × Nat × Int32) := [(11, 265, 1431655765), (11, 266, 858993459), (11, 267, 252645135), (10, 411, 55555), (18, 120, 99999), (18, 375, 1000000), (18, 495, 55555)]
def KJ : List (Nat × Nat × Int64) := [(0, 102, 1000000), (0, 104, (-1000000)), (10, 397, (-1)), (18, 128, 1152921504606846976), (18, 302, 673), (18, 304, 547), (18, 306, 30971), (18, 258, 1000000), (18, 260, (-1000000)), (18, 471, (-1))]
def SI : List (Nat × Nat) := [(10, 1), (5, 3), (4, 3), (3, 3), (0, 3), (9, 3), (6, 3), (7, 3), (1, 3), (8, 3), (17, 1), (18, 1)]
def SL : List (Nat × Nat × Nat) := [(14, 38, 2), (14, 1053, 3), (10, 412, 1)]
def spC : Nat × Nat := (12, 150)
def spL : Nat × Nat := (12, 316)
def gTape : Nat := 9
def yM (M : Nat) : MethodName := allY.getD M ⟨"", "", ""⟩
def bM (M : Nat) : ByteArray := allB.getD M ⟨#[]⟩
def rM (M : Nat) : Option FieldType := allR.getD M none
def stM (M : Nat) : Bool := allT.getD M true
def gM (M : Nat) : Nat := allG.getD M 0
def ON (g : Nat) : String := allON.getD g ""
def fnm (ci k : Nat) : String × String := if ci = 12 then (if k = 0 then ("value", "[B") else ("coder", "B")) else ((TT ci k).2.1, (TT ci k).2.2.1)
def CNs (ci : Nat) : String := if ci = 12 then "java/lang/String" else CN ci
def fW (q : Nat × Nat × Nat × Nat × Bool) : Cond := match q.2.2.2.2 with
  | true => .fieldLinkNest (ON q.1) q.2.1 (CNs q.2.2.1) (fnm q.2.2.1 q.2.2.2.1).1 (fnm q.2.2.1 q.2.2.2.1).2 "QuiverKin"
  | false => .fieldLink (ON q.1) q.2.1 (CNs q.2.2.1) (fnm q.2.2.1 q.2.2.2.1).1 (fnm q.2.2.1 q.2.2.2.1).2
def mW (q : Nat × Nat × Nat × Bool) : Cond := match q.2.2.2 with
  | true => .methodLinkNest (ON q.1) q.2.1 (yM q.2.2.1) "QuiverKin"
  | false => .methodLink (ON q.1) q.2.1 (yM q.2.2.1)
def clN : Nat → String
  | 1 => "[I"
  | 5 => "QuiverKin$Table"
  | 6 => "QuiverKin$Text"
  | n => CN (n - 16)
def slN : Nat → String × String × String
  | 1 => ("QuiverKin", "LOSING", "[I")
  | 2 => ("java/lang/String", "COMPACT_STRINGS", "Z")
  | _ => ("jdk/internal/util/Preconditions", "SIOOBE_FORMATTER", "Ljava/util/function/BiFunction;")
def yClone : MethodName := ⟨"[I", "clone", "()Ljava/lang/Object;"⟩
def yCloneO : MethodName := ⟨"java/lang/Object", "clone", "()Ljava/lang/Object;"⟩
/-- the words that every method is proved with, each kind in the order of the tables -/
def Wk1 : List Cond := idsT.map (fun M => Cond.code (yM M) (bM M) (mxx M) (rM M))
def Wk2 : List Cond := idsS.map (fun M => if stM M = true then Cond.static (yM M) else Cond.instanceMethod (yM M))
def Wk3 : List Cond := idsV.map (fun M => Cond.selects (yM M).cls (yM M) (yM M))
def Wk4 : List Cond := gsI.map (fun g => Cond.initialized (ON g))
def Wk5 : List Cond := FL.map fW
def Wk6 : List Cond := ML.map mW
def Wk7 : List Cond := LY.map (fun q => u_lay (CN q.1) (TT q.1) q.2)
def Wk8 : List Cond := CL.map (fun q => Cond.classLink (ON q.1) q.2.1 (clN q.2.2))
def Wk9 : List Cond := cisN.map (fun ci => Cond.instantiable (CN ci) (nf ci))
def Wk10 : List Cond := cisI.map (fun ci => Cond.initialized (CN ci))
def Wk11 : List Cond := KI.map (fun q => Cond.constant (ON q.1) q.2.1 q.2.2)
def Wk12 : List Cond := KJ.map (fun q => Cond.constantLong (ON q.1) q.2.1 q.2.2)
def Wk13 : List Cond := SI.map (fun q => Cond.methodLink (ON q.1) q.2 Lib.objectInit)
def Wk14 : List Cond := SL.map (fun q => Cond.fieldLink (ON q.1) q.2.1 (slN q.2.2).1 (slN q.2.2).2.1 (slN q.2.2).2.2)
def Wk15 : List Cond := [Cond.arrayClass .int, Cond.arrayClass .boolean, Cond.arrayClass .long, Cond.instanceMethod Lib.objectInit, Cond.code Lib.objectInit ⟨#[0xb1]⟩ 1 none, Cond.methodLink (ON spC.1) spC.2 arraycopyName, Cond.native arraycopyName, Cond.static arraycopyName, Cond.initialized "java/lang/System", Cond.methodLink (ON spL.1) spL.2 yClone, Cond.sameMethod "[I" "java/lang/Object" "clone" "()Ljava/lang/Object;", Cond.native yCloneO, Cond.instanceMethod yCloneO, Cond.selects "[I" yClone yCloneO, Cond.castable "[I" "java/lang/Cloneable"]
def Wds : List Cond := Wk1 ++ (Wk2 ++ (Wk3 ++ (Wk4 ++ (Wk5 ++ (Wk6 ++ (Wk7 ++ (Wk8 ++ (Wk9 ++ (Wk10 ++ (Wk11 ++ (Wk12 ++ (Wk13 ++ (Wk14 ++ Wk15)))))))))))))
def drE (v : Cond) : List Cond → List Cond
  | [] => []
  | w :: ws => match decide (w = v) with
    | true => drE v ws
    | false => w :: ws
def subL : List Cond → List Cond → Bool
  | ws, [] => ws.isEmpty
  | ws, v :: vs => subL (drE v ws) vs
theorem drE_mem (v : Cond) : ∀ (ws : List Cond), ∀ w ∈ ws, w = v ∨ w ∈ drE v ws := by
  intro ws
  induction ws with
  | nil => intro w hw; cases hw
  | cons a l ih =>
    intro w hw
    rw [drE]
    by_cases e : a = v
    · rw [show decide (a = v) = true from decide_eq_true e]
      rcases List.mem_cons.mp hw with q | q
      · exact Or.inl (q.trans e)
      · exact ih w q
    · rw [show decide (a = v) = false from decide_eq_false e]
      exact Or.inr hw
theorem subL_mem : ∀ (vs ws : List Cond), subL ws vs = true → ∀ w ∈ ws, w ∈ vs := by
  intro vs
  induction vs with
  | nil =>
    intro ws h w hw
    cases ws with
    | nil => cases hw
    | cons a l => cases h
  | cons v vs ih =>
    intro ws h w hw
    rcases drE_mem v ws w hw with q | q
    · rw [q]; exact List.mem_cons_self
    · exact List.mem_cons_of_mem _ (ih (drE v ws) h w q)
theorem in_1 {w : Cond} (h : w ∈ tables_1_1) : w ∈ lw_tbl := List.mem_append_right _ (List.mem_append_left _ h)
theorem in_2 {w : Cond} (h : w ∈ tables_1_2) : w ∈ lw_tbl := List.mem_append_right _ (List.mem_append_right _ (List.mem_append_left _ h))
theorem in_3 {w : Cond} (h : w ∈ tables_1_3) : w ∈ lw_tbl := List.mem_append_right _ (List.mem_append_right _ (List.mem_append_right _ (List.mem_append_left _ h)))
theorem in_4 {w : Cond} (h : w ∈ tables_1_4) : w ∈ lw_tbl := List.mem_append_right _ (List.mem_append_right _ (List.mem_append_right _ (List.mem_append_right _ (List.mem_append_left _ h))))
theorem in_5 {w : Cond} (h : w ∈ tables_1_5) : w ∈ lw_tbl := List.mem_append_right _ (List.mem_append_right _ (List.mem_append_right _ (List.mem_append_right _ (List.mem_append_right _ (List.mem_append_left _ h)))))
theorem in_6 {w : Cond} (h : w ∈ tables_1_6) : w ∈ lw_tbl := List.mem_append_right _ (List.mem_append_right _ (List.mem_append_right _ (List.mem_append_right _ (List.mem_append_right _ (List.mem_append_right _ (List.mem_append_left _ h))))))
theorem in_7 {w : Cond} (h : w ∈ tables_1_7) : w ∈ lw_tbl := List.mem_append_right _ (List.mem_append_right _ (List.mem_append_right _ (List.mem_append_right _ (List.mem_append_right _ (List.mem_append_right _ (List.mem_append_right _ (List.mem_append_left _ h)))))))
theorem in_8 {w : Cond} (h : w ∈ tables_1_8) : w ∈ lw_tbl := List.mem_append_right _ (List.mem_append_right _ (List.mem_append_right _ (List.mem_append_right _ (List.mem_append_right _ (List.mem_append_right _ (List.mem_append_right _ (List.mem_append_right _ (h))))))))
set_option maxRecDepth 20000 in
theorem cw_12 : Cond.code (yM 12) (bM 12) (mxx 12) (rM 12) ∈ lw_tbl := in_1 (List.mem_of_getElem? (i := 27) rfl)
set_option maxRecDepth 20000 in
theorem cw_6 : Cond.code (yM 6) (bM 6) (mxx 6) (rM 6) ∈ lw_tbl := in_1 (List.mem_of_getElem? (i := 35) rfl)
set_option maxRecDepth 20000 in
theorem cw_5 : Cond.code (yM 5) (bM 5) (mxx 5) (rM 5) ∈ lw_tbl := in_1 (List.mem_of_getElem? (i := 41) rfl)
set_option maxRecDepth 20000 in
theorem cw_4 : Cond.code (yM 4) (bM 4) (mxx 4) (rM 4) ∈ lw_tbl := in_1 (List.mem_of_getElem? (i := 103) rfl)
set_option maxRecDepth 20000 in
theorem cw_3 : Cond.code (yM 3) (bM 3) (mxx 3) (rM 3) ∈ lw_tbl := in_1 (List.mem_of_getElem? (i := 107) rfl)
set_option maxRecDepth 20000 in
theorem cw_1 : Cond.code (yM 1) (bM 1) (mxx 1) (rM 1) ∈ lw_tbl := in_1 (List.mem_of_getElem? (i := 182) rfl)
set_option maxRecDepth 20000 in
theorem cw_11 : Cond.code (yM 11) (bM 11) (mxx 11) (rM 11) ∈ lw_tbl := in_1 (List.mem_of_getElem? (i := 192) rfl)
set_option maxRecDepth 20000 in
theorem cw_7 : Cond.code (yM 7) (bM 7) (mxx 7) (rM 7) ∈ lw_tbl := in_1 (List.mem_of_getElem? (i := 222) rfl)
set_option maxRecDepth 20000 in
theorem cw_8 : Cond.code (yM 8) (bM 8) (mxx 8) (rM 8) ∈ lw_tbl := in_2 (List.mem_of_getElem? (i := 24) rfl)
set_option maxRecDepth 20000 in
theorem cw_2 : Cond.code (yM 2) (bM 2) (mxx 2) (rM 2) ∈ lw_tbl := in_2 (List.mem_of_getElem? (i := 62) rfl)
set_option maxRecDepth 20000 in
theorem cw_10 : Cond.code (yM 10) (bM 10) (mxx 10) (rM 10) ∈ lw_tbl := in_2 (List.mem_of_getElem? (i := 85) rfl)
set_option maxRecDepth 20000 in
theorem cw_9 : Cond.code (yM 9) (bM 9) (mxx 9) (rM 9) ∈ lw_tbl := in_2 (List.mem_of_getElem? (i := 89) rfl)
set_option maxRecDepth 20000 in
theorem cw_99 : Cond.code (yM 99) (bM 99) (mxx 99) (rM 99) ∈ lw_tbl := in_2 (List.mem_of_getElem? (i := 136) rfl)
set_option maxRecDepth 20000 in
theorem cw_14 : Cond.code (yM 14) (bM 14) (mxx 14) (rM 14) ∈ lw_tbl := in_2 (List.mem_of_getElem? (i := 139) rfl)
set_option maxRecDepth 20000 in
theorem cw_98 : Cond.code (yM 98) (bM 98) (mxx 98) (rM 98) ∈ lw_tbl := in_2 (List.mem_of_getElem? (i := 143) rfl)
set_option maxRecDepth 20000 in
theorem cw_19 : Cond.code (yM 19) (bM 19) (mxx 19) (rM 19) ∈ lw_tbl := in_2 (List.mem_of_getElem? (i := 146) rfl)
set_option maxRecDepth 20000 in
theorem cw_82 : Cond.code (yM 82) (bM 82) (mxx 82) (rM 82) ∈ lw_tbl := in_2 (List.mem_of_getElem? (i := 150) rfl)
set_option maxRecDepth 20000 in
theorem cw_81 : Cond.code (yM 81) (bM 81) (mxx 81) (rM 81) ∈ lw_tbl := in_2 (List.mem_of_getElem? (i := 154) rfl)
set_option maxRecDepth 20000 in
theorem cw_79 : Cond.code (yM 79) (bM 79) (mxx 79) (rM 79) ∈ lw_tbl := in_2 (List.mem_of_getElem? (i := 159) rfl)
set_option maxRecDepth 20000 in
theorem cw_255 : Cond.code (yM 255) (bM 255) (mxx 255) (rM 255) ∈ lw_tbl := in_2 (List.mem_of_getElem? (i := 163) rfl)
set_option maxRecDepth 20000 in
theorem cw_254 : Cond.code (yM 254) (bM 254) (mxx 254) (rM 254) ∈ lw_tbl := in_2 (List.mem_of_getElem? (i := 167) rfl)
set_option maxRecDepth 20000 in
theorem cw_251 : Cond.code (yM 251) (bM 251) (mxx 251) (rM 251) ∈ lw_tbl := in_2 (List.mem_of_getElem? (i := 171) rfl)
set_option maxRecDepth 20000 in
theorem cw_232 : Cond.code (yM 232) (bM 232) (mxx 232) (rM 232) ∈ lw_tbl := in_2 (List.mem_of_getElem? (i := 175) rfl)
set_option maxRecDepth 20000 in
theorem cw_233 : Cond.code (yM 233) (bM 233) (mxx 233) (rM 233) ∈ lw_tbl := in_2 (List.mem_of_getElem? (i := 178) rfl)
set_option maxRecDepth 20000 in
theorem cw_234 : Cond.code (yM 234) (bM 234) (mxx 234) (rM 234) ∈ lw_tbl := in_2 (List.mem_of_getElem? (i := 182) rfl)
set_option maxRecDepth 20000 in
theorem cw_65 : Cond.code (yM 65) (bM 65) (mxx 65) (rM 65) ∈ lw_tbl := in_2 (List.mem_of_getElem? (i := 185) rfl)
set_option maxRecDepth 20000 in
theorem cw_231 : Cond.code (yM 231) (bM 231) (mxx 231) (rM 231) ∈ lw_tbl := in_2 (List.mem_of_getElem? (i := 189) rfl)
set_option maxRecDepth 20000 in
theorem cw_244 : Cond.code (yM 244) (bM 244) (mxx 244) (rM 244) ∈ lw_tbl := in_2 (List.mem_of_getElem? (i := 192) rfl)
set_option maxRecDepth 20000 in
theorem cw_250 : Cond.code (yM 250) (bM 250) (mxx 250) (rM 250) ∈ lw_tbl := in_2 (List.mem_of_getElem? (i := 196) rfl)
set_option maxRecDepth 20000 in
theorem cw_249 : Cond.code (yM 249) (bM 249) (mxx 249) (rM 249) ∈ lw_tbl := in_2 (List.mem_of_getElem? (i := 200) rfl)
set_option maxRecDepth 20000 in
theorem cw_237 : Cond.code (yM 237) (bM 237) (mxx 237) (rM 237) ∈ lw_tbl := in_2 (List.mem_of_getElem? (i := 205) rfl)
set_option maxRecDepth 20000 in
theorem cw_236 : Cond.code (yM 236) (bM 236) (mxx 236) (rM 236) ∈ lw_tbl := in_2 (List.mem_of_getElem? (i := 209) rfl)
set_option maxRecDepth 20000 in
theorem cw_248 : Cond.code (yM 248) (bM 248) (mxx 248) (rM 248) ∈ lw_tbl := in_2 (List.mem_of_getElem? (i := 215) rfl)
set_option maxRecDepth 20000 in
theorem cw_235 : Cond.code (yM 235) (bM 235) (mxx 235) (rM 235) ∈ lw_tbl := in_2 (List.mem_of_getElem? (i := 219) rfl)
set_option maxRecDepth 20000 in
theorem cw_247 : Cond.code (yM 247) (bM 247) (mxx 247) (rM 247) ∈ lw_tbl := in_2 (List.mem_of_getElem? (i := 222) rfl)
set_option maxRecDepth 20000 in
theorem cw_246 : Cond.code (yM 246) (bM 246) (mxx 246) (rM 246) ∈ lw_tbl := in_2 (List.mem_of_getElem? (i := 225) rfl)
set_option maxRecDepth 20000 in
theorem cw_245 : Cond.code (yM 245) (bM 245) (mxx 245) (rM 245) ∈ lw_tbl := in_2 (List.mem_of_getElem? (i := 230) rfl)
set_option maxRecDepth 20000 in
theorem cw_243 : Cond.code (yM 243) (bM 243) (mxx 243) (rM 243) ∈ lw_tbl := in_3 (List.mem_of_getElem? (i := 13) rfl)
set_option maxRecDepth 20000 in
theorem cw_242 : Cond.code (yM 242) (bM 242) (mxx 242) (rM 242) ∈ lw_tbl := in_3 (List.mem_of_getElem? (i := 18) rfl)
set_option maxRecDepth 20000 in
theorem cw_241 : Cond.code (yM 241) (bM 241) (mxx 241) (rM 241) ∈ lw_tbl := in_3 (List.mem_of_getElem? (i := 22) rfl)
set_option maxRecDepth 20000 in
theorem cw_240 : Cond.code (yM 240) (bM 240) (mxx 240) (rM 240) ∈ lw_tbl := in_3 (List.mem_of_getElem? (i := 26) rfl)
set_option maxRecDepth 20000 in
theorem cw_238 : Cond.code (yM 238) (bM 238) (mxx 238) (rM 238) ∈ lw_tbl := in_3 (List.mem_of_getElem? (i := 29) rfl)
set_option maxRecDepth 20000 in
theorem cw_239 : Cond.code (yM 239) (bM 239) (mxx 239) (rM 239) ∈ lw_tbl := in_3 (List.mem_of_getElem? (i := 34) rfl)
set_option maxRecDepth 20000 in
theorem cw_138 : Cond.code (yM 138) (bM 138) (mxx 138) (rM 138) ∈ lw_tbl := in_3 (List.mem_of_getElem? (i := 73) rfl)
set_option maxRecDepth 20000 in
theorem cw_15 : Cond.code (yM 15) (bM 15) (mxx 15) (rM 15) ∈ lw_tbl := in_3 (List.mem_of_getElem? (i := 76) rfl)
set_option maxRecDepth 20000 in
theorem cw_141 : Cond.code (yM 141) (bM 141) (mxx 141) (rM 141) ∈ lw_tbl := in_3 (List.mem_of_getElem? (i := 80) rfl)
set_option maxRecDepth 20000 in
theorem cw_139 : Cond.code (yM 139) (bM 139) (mxx 139) (rM 139) ∈ lw_tbl := in_3 (List.mem_of_getElem? (i := 83) rfl)
set_option maxRecDepth 20000 in
theorem cw_140 : Cond.code (yM 140) (bM 140) (mxx 140) (rM 140) ∈ lw_tbl := in_3 (List.mem_of_getElem? (i := 87) rfl)
set_option maxRecDepth 20000 in
theorem cw_230 : Cond.code (yM 230) (bM 230) (mxx 230) (rM 230) ∈ lw_tbl := in_3 (List.mem_of_getElem? (i := 91) rfl)
set_option maxRecDepth 20000 in
theorem cw_229 : Cond.code (yM 229) (bM 229) (mxx 229) (rM 229) ∈ lw_tbl := in_3 (List.mem_of_getElem? (i := 95) rfl)
set_option maxRecDepth 20000 in
theorem cw_151 : Cond.code (yM 151) (bM 151) (mxx 151) (rM 151) ∈ lw_tbl := in_3 (List.mem_of_getElem? (i := 99) rfl)
set_option maxRecDepth 20000 in
theorem cw_150 : Cond.code (yM 150) (bM 150) (mxx 150) (rM 150) ∈ lw_tbl := in_3 (List.mem_of_getElem? (i := 103) rfl)
set_option maxRecDepth 20000 in
theorem cw_149 : Cond.code (yM 149) (bM 149) (mxx 149) (rM 149) ∈ lw_tbl := in_3 (List.mem_of_getElem? (i := 107) rfl)
set_option maxRecDepth 20000 in
theorem cw_143 : Cond.code (yM 143) (bM 143) (mxx 143) (rM 143) ∈ lw_tbl := in_3 (List.mem_of_getElem? (i := 111) rfl)
set_option maxRecDepth 20000 in
theorem cw_144 : Cond.code (yM 144) (bM 144) (mxx 144) (rM 144) ∈ lw_tbl := in_3 (List.mem_of_getElem? (i := 116) rfl)
set_option maxRecDepth 20000 in
theorem cw_61 : Cond.code (yM 61) (bM 61) (mxx 61) (rM 61) ∈ lw_tbl := in_3 (List.mem_of_getElem? (i := 121) rfl)
set_option maxRecDepth 20000 in
theorem cw_146 : Cond.code (yM 146) (bM 146) (mxx 146) (rM 146) ∈ lw_tbl := in_3 (List.mem_of_getElem? (i := 125) rfl)
set_option maxRecDepth 20000 in
theorem cw_145 : Cond.code (yM 145) (bM 145) (mxx 145) (rM 145) ∈ lw_tbl := in_3 (List.mem_of_getElem? (i := 128) rfl)
set_option maxRecDepth 20000 in
theorem cw_156 : Cond.code (yM 156) (bM 156) (mxx 156) (rM 156) ∈ lw_tbl := in_3 (List.mem_of_getElem? (i := 132) rfl)
set_option maxRecDepth 20000 in
theorem cw_142 : Cond.code (yM 142) (bM 142) (mxx 142) (rM 142) ∈ lw_tbl := in_3 (List.mem_of_getElem? (i := 136) rfl)
set_option maxRecDepth 20000 in
theorem cw_155 : Cond.code (yM 155) (bM 155) (mxx 155) (rM 155) ∈ lw_tbl := in_3 (List.mem_of_getElem? (i := 140) rfl)
set_option maxRecDepth 20000 in
theorem cw_154 : Cond.code (yM 154) (bM 154) (mxx 154) (rM 154) ∈ lw_tbl := in_3 (List.mem_of_getElem? (i := 144) rfl)
set_option maxRecDepth 20000 in
theorem cw_153 : Cond.code (yM 153) (bM 153) (mxx 153) (rM 153) ∈ lw_tbl := in_3 (List.mem_of_getElem? (i := 148) rfl)
set_option maxRecDepth 20000 in
theorem cw_152 : Cond.code (yM 152) (bM 152) (mxx 152) (rM 152) ∈ lw_tbl := in_3 (List.mem_of_getElem? (i := 152) rfl)
set_option maxRecDepth 20000 in
theorem cw_147 : Cond.code (yM 147) (bM 147) (mxx 147) (rM 147) ∈ lw_tbl := in_3 (List.mem_of_getElem? (i := 155) rfl)
set_option maxRecDepth 20000 in
theorem cw_148 : Cond.code (yM 148) (bM 148) (mxx 148) (rM 148) ∈ lw_tbl := in_3 (List.mem_of_getElem? (i := 159) rfl)
set_option maxRecDepth 20000 in
theorem cw_253 : Cond.code (yM 253) (bM 253) (mxx 253) (rM 253) ∈ lw_tbl := in_3 (List.mem_of_getElem? (i := 164) rfl)
set_option maxRecDepth 20000 in
theorem cw_252 : Cond.code (yM 252) (bM 252) (mxx 252) (rM 252) ∈ lw_tbl := in_3 (List.mem_of_getElem? (i := 178) rfl)
set_option maxRecDepth 20000 in
theorem cw_137 : Cond.code (yM 137) (bM 137) (mxx 137) (rM 137) ∈ lw_tbl := in_3 (List.mem_of_getElem? (i := 201) rfl)
set_option maxRecDepth 20000 in
theorem cw_80 : Cond.code (yM 80) (bM 80) (mxx 80) (rM 80) ∈ lw_tbl := in_3 (List.mem_of_getElem? (i := 205) rfl)
set_option maxRecDepth 20000 in
theorem cw_45 : Cond.code (yM 45) (bM 45) (mxx 45) (rM 45) ∈ lw_tbl := in_3 (List.mem_of_getElem? (i := 209) rfl)
set_option maxRecDepth 20000 in
theorem cw_119 : Cond.code (yM 119) (bM 119) (mxx 119) (rM 119) ∈ lw_tbl := in_3 (List.mem_of_getElem? (i := 213) rfl)
set_option maxRecDepth 20000 in
theorem cw_118 : Cond.code (yM 118) (bM 118) (mxx 118) (rM 118) ∈ lw_tbl := in_3 (List.mem_of_getElem? (i := 217) rfl)
set_option maxRecDepth 20000 in
theorem cw_26 : Cond.code (yM 26) (bM 26) (mxx 26) (rM 26) ∈ lw_tbl := in_3 (List.mem_of_getElem? (i := 221) rfl)
set_option maxRecDepth 20000 in
theorem cw_69 : Cond.code (yM 69) (bM 69) (mxx 69) (rM 69) ∈ lw_tbl := in_3 (List.mem_of_getElem? (i := 225) rfl)
set_option maxRecDepth 20000 in
theorem cw_55 : Cond.code (yM 55) (bM 55) (mxx 55) (rM 55) ∈ lw_tbl := in_3 (List.mem_of_getElem? (i := 229) rfl)
set_option maxRecDepth 20000 in
theorem cw_29 : Cond.code (yM 29) (bM 29) (mxx 29) (rM 29) ∈ lw_tbl := in_3 (List.mem_of_getElem? (i := 233) rfl)
set_option maxRecDepth 20000 in
theorem cw_32 : Cond.code (yM 32) (bM 32) (mxx 32) (rM 32) ∈ lw_tbl := in_3 (List.mem_of_getElem? (i := 237) rfl)
set_option maxRecDepth 20000 in
theorem cw_31 : Cond.code (yM 31) (bM 31) (mxx 31) (rM 31) ∈ lw_tbl := in_4 (List.mem_of_getElem? (i := 2) rfl)
set_option maxRecDepth 20000 in
theorem cw_70 : Cond.code (yM 70) (bM 70) (mxx 70) (rM 70) ∈ lw_tbl := in_4 (List.mem_of_getElem? (i := 6) rfl)
set_option maxRecDepth 20000 in
theorem cw_78 : Cond.code (yM 78) (bM 78) (mxx 78) (rM 78) ∈ lw_tbl := in_4 (List.mem_of_getElem? (i := 11) rfl)
set_option maxRecDepth 20000 in
theorem cw_76 : Cond.code (yM 76) (bM 76) (mxx 76) (rM 76) ∈ lw_tbl := in_4 (List.mem_of_getElem? (i := 15) rfl)
set_option maxRecDepth 20000 in
theorem cw_77 : Cond.code (yM 77) (bM 77) (mxx 77) (rM 77) ∈ lw_tbl := in_4 (List.mem_of_getElem? (i := 19) rfl)
set_option maxRecDepth 20000 in
theorem cw_121 : Cond.code (yM 121) (bM 121) (mxx 121) (rM 121) ∈ lw_tbl := in_4 (List.mem_of_getElem? (i := 23) rfl)
set_option maxRecDepth 20000 in
theorem cw_120 : Cond.code (yM 120) (bM 120) (mxx 120) (rM 120) ∈ lw_tbl := in_4 (List.mem_of_getElem? (i := 28) rfl)
set_option maxRecDepth 20000 in
theorem cw_124 : Cond.code (yM 124) (bM 124) (mxx 124) (rM 124) ∈ lw_tbl := in_4 (List.mem_of_getElem? (i := 32) rfl)
set_option maxRecDepth 20000 in
theorem cw_122 : Cond.code (yM 122) (bM 122) (mxx 122) (rM 122) ∈ lw_tbl := in_4 (List.mem_of_getElem? (i := 36) rfl)
set_option maxRecDepth 20000 in
theorem cw_123 : Cond.code (yM 123) (bM 123) (mxx 123) (rM 123) ∈ lw_tbl := in_4 (List.mem_of_getElem? (i := 40) rfl)
set_option maxRecDepth 20000 in
theorem cw_75 : Cond.code (yM 75) (bM 75) (mxx 75) (rM 75) ∈ lw_tbl := in_4 (List.mem_of_getElem? (i := 44) rfl)
set_option maxRecDepth 20000 in
theorem cw_74 : Cond.code (yM 74) (bM 74) (mxx 74) (rM 74) ∈ lw_tbl := in_4 (List.mem_of_getElem? (i := 48) rfl)
set_option maxRecDepth 20000 in
theorem cw_54 : Cond.code (yM 54) (bM 54) (mxx 54) (rM 54) ∈ lw_tbl := in_4 (List.mem_of_getElem? (i := 53) rfl)
set_option maxRecDepth 20000 in
theorem cw_53 : Cond.code (yM 53) (bM 53) (mxx 53) (rM 53) ∈ lw_tbl := in_4 (List.mem_of_getElem? (i := 57) rfl)
set_option maxRecDepth 20000 in
theorem cw_73 : Cond.code (yM 73) (bM 73) (mxx 73) (rM 73) ∈ lw_tbl := in_4 (List.mem_of_getElem? (i := 61) rfl)
set_option maxRecDepth 20000 in
theorem cw_68 : Cond.code (yM 68) (bM 68) (mxx 68) (rM 68) ∈ lw_tbl := in_4 (List.mem_of_getElem? (i := 65) rfl)
set_option maxRecDepth 20000 in
theorem cw_67 : Cond.code (yM 67) (bM 67) (mxx 67) (rM 67) ∈ lw_tbl := in_4 (List.mem_of_getElem? (i := 69) rfl)
set_option maxRecDepth 20000 in
theorem cw_64 : Cond.code (yM 64) (bM 64) (mxx 64) (rM 64) ∈ lw_tbl := in_4 (List.mem_of_getElem? (i := 74) rfl)
set_option maxRecDepth 20000 in
theorem cw_62 : Cond.code (yM 62) (bM 62) (mxx 62) (rM 62) ∈ lw_tbl := in_4 (List.mem_of_getElem? (i := 77) rfl)
set_option maxRecDepth 20000 in
theorem cw_57 : Cond.code (yM 57) (bM 57) (mxx 57) (rM 57) ∈ lw_tbl := in_4 (List.mem_of_getElem? (i := 81) rfl)
set_option maxRecDepth 20000 in
theorem cw_56 : Cond.code (yM 56) (bM 56) (mxx 56) (rM 56) ∈ lw_tbl := in_4 (List.mem_of_getElem? (i := 85) rfl)
set_option maxRecDepth 20000 in
theorem cw_63 : Cond.code (yM 63) (bM 63) (mxx 63) (rM 63) ∈ lw_tbl := in_4 (List.mem_of_getElem? (i := 89) rfl)
set_option maxRecDepth 20000 in
theorem cw_58 : Cond.code (yM 58) (bM 58) (mxx 58) (rM 58) ∈ lw_tbl := in_4 (List.mem_of_getElem? (i := 92) rfl)
set_option maxRecDepth 20000 in
theorem cw_60 : Cond.code (yM 60) (bM 60) (mxx 60) (rM 60) ∈ lw_tbl := in_4 (List.mem_of_getElem? (i := 96) rfl)
set_option maxRecDepth 20000 in
theorem cw_59 : Cond.code (yM 59) (bM 59) (mxx 59) (rM 59) ∈ lw_tbl := in_4 (List.mem_of_getElem? (i := 99) rfl)
set_option maxRecDepth 20000 in
theorem cw_66 : Cond.code (yM 66) (bM 66) (mxx 66) (rM 66) ∈ lw_tbl := in_4 (List.mem_of_getElem? (i := 108) rfl)
set_option maxRecDepth 20000 in
theorem cw_72 : Cond.code (yM 72) (bM 72) (mxx 72) (rM 72) ∈ lw_tbl := in_4 (List.mem_of_getElem? (i := 112) rfl)
set_option maxRecDepth 20000 in
theorem cw_71 : Cond.code (yM 71) (bM 71) (mxx 71) (rM 71) ∈ lw_tbl := in_4 (List.mem_of_getElem? (i := 118) rfl)
set_option maxRecDepth 20000 in
theorem cw_126 : Cond.code (yM 126) (bM 126) (mxx 126) (rM 126) ∈ lw_tbl := in_4 (List.mem_of_getElem? (i := 122) rfl)
set_option maxRecDepth 20000 in
theorem cw_125 : Cond.code (yM 125) (bM 125) (mxx 125) (rM 125) ∈ lw_tbl := in_4 (List.mem_of_getElem? (i := 127) rfl)
set_option maxRecDepth 20000 in
theorem cw_263 : Cond.code (yM 263) (bM 263) (mxx 263) (rM 263) ∈ lw_tbl := in_4 (List.mem_of_getElem? (i := 136) rfl)
set_option maxRecDepth 20000 in
theorem cw_262 : Cond.code (yM 262) (bM 262) (mxx 262) (rM 262) ∈ lw_tbl := in_4 (List.mem_of_getElem? (i := 141) rfl)
set_option maxRecDepth 20000 in
theorem cw_261 : Cond.code (yM 261) (bM 261) (mxx 261) (rM 261) ∈ lw_tbl := in_4 (List.mem_of_getElem? (i := 146) rfl)
set_option maxRecDepth 20000 in
theorem cw_258 : Cond.code (yM 258) (bM 258) (mxx 258) (rM 258) ∈ lw_tbl := in_4 (List.mem_of_getElem? (i := 150) rfl)
set_option maxRecDepth 20000 in
theorem cw_257 : Cond.code (yM 257) (bM 257) (mxx 257) (rM 257) ∈ lw_tbl := in_4 (List.mem_of_getElem? (i := 154) rfl)
set_option maxRecDepth 20000 in
theorem cw_117 : Cond.code (yM 117) (bM 117) (mxx 117) (rM 117) ∈ lw_tbl := in_4 (List.mem_of_getElem? (i := 159) rfl)
set_option maxRecDepth 20000 in
theorem cw_27 : Cond.code (yM 27) (bM 27) (mxx 27) (rM 27) ∈ lw_tbl := in_4 (List.mem_of_getElem? (i := 168) rfl)
set_option maxRecDepth 20000 in
theorem cw_97 : Cond.code (yM 97) (bM 97) (mxx 97) (rM 97) ∈ lw_tbl := in_4 (List.mem_of_getElem? (i := 172) rfl)
set_option maxRecDepth 20000 in
theorem cw_96 : Cond.code (yM 96) (bM 96) (mxx 96) (rM 96) ∈ lw_tbl := in_4 (List.mem_of_getElem? (i := 176) rfl)
set_option maxRecDepth 20000 in
theorem cw_44 : Cond.code (yM 44) (bM 44) (mxx 44) (rM 44) ∈ lw_tbl := in_4 (List.mem_of_getElem? (i := 180) rfl)
set_option maxRecDepth 20000 in
theorem cw_40 : Cond.code (yM 40) (bM 40) (mxx 40) (rM 40) ∈ lw_tbl := in_4 (List.mem_of_getElem? (i := 183) rfl)
set_option maxRecDepth 20000 in
theorem cw_43 : Cond.code (yM 43) (bM 43) (mxx 43) (rM 43) ∈ lw_tbl := in_4 (List.mem_of_getElem? (i := 186) rfl)
set_option maxRecDepth 20000 in
theorem cw_42 : Cond.code (yM 42) (bM 42) (mxx 42) (rM 42) ∈ lw_tbl := in_4 (List.mem_of_getElem? (i := 189) rfl)
set_option maxRecDepth 20000 in
theorem cw_41 : Cond.code (yM 41) (bM 41) (mxx 41) (rM 41) ∈ lw_tbl := in_4 (List.mem_of_getElem? (i := 192) rfl)
set_option maxRecDepth 20000 in
theorem cw_88 : Cond.code (yM 88) (bM 88) (mxx 88) (rM 88) ∈ lw_tbl := in_4 (List.mem_of_getElem? (i := 196) rfl)
set_option maxRecDepth 20000 in
theorem cw_87 : Cond.code (yM 87) (bM 87) (mxx 87) (rM 87) ∈ lw_tbl := in_4 (List.mem_of_getElem? (i := 200) rfl)
set_option maxRecDepth 20000 in
theorem cw_47 : Cond.code (yM 47) (bM 47) (mxx 47) (rM 47) ∈ lw_tbl := in_4 (List.mem_of_getElem? (i := 204) rfl)
set_option maxRecDepth 20000 in
theorem cw_46 : Cond.code (yM 46) (bM 46) (mxx 46) (rM 46) ∈ lw_tbl := in_4 (List.mem_of_getElem? (i := 208) rfl)
set_option maxRecDepth 20000 in
theorem cw_104 : Cond.code (yM 104) (bM 104) (mxx 104) (rM 104) ∈ lw_tbl := in_4 (List.mem_of_getElem? (i := 212) rfl)
set_option maxRecDepth 20000 in
theorem cw_103 : Cond.code (yM 103) (bM 103) (mxx 103) (rM 103) ∈ lw_tbl := in_4 (List.mem_of_getElem? (i := 216) rfl)
set_option maxRecDepth 20000 in
theorem cw_86 : Cond.code (yM 86) (bM 86) (mxx 86) (rM 86) ∈ lw_tbl := in_4 (List.mem_of_getElem? (i := 221) rfl)
set_option maxRecDepth 20000 in
theorem cw_135 : Cond.code (yM 135) (bM 135) (mxx 135) (rM 135) ∈ lw_tbl := in_4 (List.mem_of_getElem? (i := 226) rfl)
set_option maxRecDepth 20000 in
theorem cw_131 : Cond.code (yM 131) (bM 131) (mxx 131) (rM 131) ∈ lw_tbl := in_4 (List.mem_of_getElem? (i := 231) rfl)
set_option maxRecDepth 20000 in
theorem cw_130 : Cond.code (yM 130) (bM 130) (mxx 130) (rM 130) ∈ lw_tbl := in_4 (List.mem_of_getElem? (i := 235) rfl)
set_option maxRecDepth 20000 in
theorem cw_105 : Cond.code (yM 105) (bM 105) (mxx 105) (rM 105) ∈ lw_tbl := in_4 (List.mem_of_getElem? (i := 238) rfl)
set_option maxRecDepth 20000 in
theorem cw_129 : Cond.code (yM 129) (bM 129) (mxx 129) (rM 129) ∈ lw_tbl := in_5 (List.mem_of_getElem? (i := 3) rfl)
set_option maxRecDepth 20000 in
theorem cw_128 : Cond.code (yM 128) (bM 128) (mxx 128) (rM 128) ∈ lw_tbl := in_5 (List.mem_of_getElem? (i := 8) rfl)
set_option maxRecDepth 20000 in
theorem cw_107 : Cond.code (yM 107) (bM 107) (mxx 107) (rM 107) ∈ lw_tbl := in_5 (List.mem_of_getElem? (i := 12) rfl)
set_option maxRecDepth 20000 in
theorem cw_133 : Cond.code (yM 133) (bM 133) (mxx 133) (rM 133) ∈ lw_tbl := in_5 (List.mem_of_getElem? (i := 17) rfl)
set_option maxRecDepth 20000 in
theorem cw_134 : Cond.code (yM 134) (bM 134) (mxx 134) (rM 134) ∈ lw_tbl := in_5 (List.mem_of_getElem? (i := 21) rfl)
set_option maxRecDepth 20000 in
theorem cw_136 : Cond.code (yM 136) (bM 136) (mxx 136) (rM 136) ∈ lw_tbl := in_5 (List.mem_of_getElem? (i := 25) rfl)
set_option maxRecDepth 20000 in
theorem cw_106 : Cond.code (yM 106) (bM 106) (mxx 106) (rM 106) ∈ lw_tbl := in_5 (List.mem_of_getElem? (i := 29) rfl)
set_option maxRecDepth 20000 in
theorem cw_110 : Cond.code (yM 110) (bM 110) (mxx 110) (rM 110) ∈ lw_tbl := in_5 (List.mem_of_getElem? (i := 33) rfl)
set_option maxRecDepth 20000 in
theorem cw_109 : Cond.code (yM 109) (bM 109) (mxx 109) (rM 109) ∈ lw_tbl := in_5 (List.mem_of_getElem? (i := 37) rfl)
set_option maxRecDepth 20000 in
theorem cw_108 : Cond.code (yM 108) (bM 108) (mxx 108) (rM 108) ∈ lw_tbl := in_5 (List.mem_of_getElem? (i := 42) rfl)
set_option maxRecDepth 20000 in
theorem cw_94 : Cond.code (yM 94) (bM 94) (mxx 94) (rM 94) ∈ lw_tbl := in_5 (List.mem_of_getElem? (i := 46) rfl)
set_option maxRecDepth 20000 in
theorem cw_85 : Cond.code (yM 85) (bM 85) (mxx 85) (rM 85) ∈ lw_tbl := in_5 (List.mem_of_getElem? (i := 50) rfl)
set_option maxRecDepth 20000 in
theorem cw_50 : Cond.code (yM 50) (bM 50) (mxx 50) (rM 50) ∈ lw_tbl := in_5 (List.mem_of_getElem? (i := 54) rfl)
set_option maxRecDepth 20000 in
theorem cw_49 : Cond.code (yM 49) (bM 49) (mxx 49) (rM 49) ∈ lw_tbl := in_5 (List.mem_of_getElem? (i := 58) rfl)
set_option maxRecDepth 20000 in
theorem cw_48 : Cond.code (yM 48) (bM 48) (mxx 48) (rM 48) ∈ lw_tbl := in_5 (List.mem_of_getElem? (i := 64) rfl)
set_option maxRecDepth 20000 in
theorem cw_52 : Cond.code (yM 52) (bM 52) (mxx 52) (rM 52) ∈ lw_tbl := in_5 (List.mem_of_getElem? (i := 68) rfl)
set_option maxRecDepth 20000 in
theorem cw_51 : Cond.code (yM 51) (bM 51) (mxx 51) (rM 51) ∈ lw_tbl := in_5 (List.mem_of_getElem? (i := 71) rfl)
set_option maxRecDepth 20000 in
theorem cw_93 : Cond.code (yM 93) (bM 93) (mxx 93) (rM 93) ∈ lw_tbl := in_5 (List.mem_of_getElem? (i := 75) rfl)
set_option maxRecDepth 20000 in
theorem cw_92 : Cond.code (yM 92) (bM 92) (mxx 92) (rM 92) ∈ lw_tbl := in_5 (List.mem_of_getElem? (i := 79) rfl)
set_option maxRecDepth 20000 in
theorem cw_91 : Cond.code (yM 91) (bM 91) (mxx 91) (rM 91) ∈ lw_tbl := in_5 (List.mem_of_getElem? (i := 83) rfl)
set_option maxRecDepth 20000 in
theorem cw_18 : Cond.code (yM 18) (bM 18) (mxx 18) (rM 18) ∈ lw_tbl := in_5 (List.mem_of_getElem? (i := 88) rfl)
set_option maxRecDepth 20000 in
theorem cw_17 : Cond.code (yM 17) (bM 17) (mxx 17) (rM 17) ∈ lw_tbl := in_5 (List.mem_of_getElem? (i := 92) rfl)
set_option maxRecDepth 20000 in
theorem cw_16 : Cond.code (yM 16) (bM 16) (mxx 16) (rM 16) ∈ lw_tbl := in_5 (List.mem_of_getElem? (i := 96) rfl)
set_option maxRecDepth 20000 in
theorem cw_84 : Cond.code (yM 84) (bM 84) (mxx 84) (rM 84) ∈ lw_tbl := in_5 (List.mem_of_getElem? (i := 103) rfl)
set_option maxRecDepth 20000 in
theorem cw_24 : Cond.code (yM 24) (bM 24) (mxx 24) (rM 24) ∈ lw_tbl := in_5 (List.mem_of_getElem? (i := 107) rfl)
set_option maxRecDepth 20000 in
theorem cw_23 : Cond.code (yM 23) (bM 23) (mxx 23) (rM 23) ∈ lw_tbl := in_5 (List.mem_of_getElem? (i := 111) rfl)
set_option maxRecDepth 20000 in
theorem cw_83 : Cond.code (yM 83) (bM 83) (mxx 83) (rM 83) ∈ lw_tbl := in_5 (List.mem_of_getElem? (i := 117) rfl)
set_option maxRecDepth 20000 in
theorem cw_25 : Cond.code (yM 25) (bM 25) (mxx 25) (rM 25) ∈ lw_tbl := in_5 (List.mem_of_getElem? (i := 121) rfl)
set_option maxRecDepth 20000 in
theorem cw_22 : Cond.code (yM 22) (bM 22) (mxx 22) (rM 22) ∈ lw_tbl := in_5 (List.mem_of_getElem? (i := 125) rfl)
set_option maxRecDepth 20000 in
theorem cw_21 : Cond.code (yM 21) (bM 21) (mxx 21) (rM 21) ∈ lw_tbl := in_5 (List.mem_of_getElem? (i := 129) rfl)
set_option maxRecDepth 20000 in
theorem cw_20 : Cond.code (yM 20) (bM 20) (mxx 20) (rM 20) ∈ lw_tbl := in_5 (List.mem_of_getElem? (i := 132) rfl)
set_option maxRecDepth 20000 in
theorem cw_89 : Cond.code (yM 89) (bM 89) (mxx 89) (rM 89) ∈ lw_tbl := in_5 (List.mem_of_getElem? (i := 137) rfl)
set_option maxRecDepth 20000 in
theorem cw_127 : Cond.code (yM 127) (bM 127) (mxx 127) (rM 127) ∈ lw_tbl := in_5 (List.mem_of_getElem? (i := 141) rfl)
set_option maxRecDepth 20000 in
theorem cw_111 : Cond.code (yM 111) (bM 111) (mxx 111) (rM 111) ∈ lw_tbl := in_5 (List.mem_of_getElem? (i := 145) rfl)
set_option maxRecDepth 20000 in
theorem cw_115 : Cond.code (yM 115) (bM 115) (mxx 115) (rM 115) ∈ lw_tbl := in_5 (List.mem_of_getElem? (i := 149) rfl)
set_option maxRecDepth 20000 in
theorem cw_113 : Cond.code (yM 113) (bM 113) (mxx 113) (rM 113) ∈ lw_tbl := in_5 (List.mem_of_getElem? (i := 152) rfl)
set_option maxRecDepth 20000 in
theorem cw_114 : Cond.code (yM 114) (bM 114) (mxx 114) (rM 114) ∈ lw_tbl := in_5 (List.mem_of_getElem? (i := 155) rfl)
set_option maxRecDepth 20000 in
theorem cw_112 : Cond.code (yM 112) (bM 112) (mxx 112) (rM 112) ∈ lw_tbl := in_5 (List.mem_of_getElem? (i := 158) rfl)
set_option maxRecDepth 20000 in
theorem cw_132 : Cond.code (yM 132) (bM 132) (mxx 132) (rM 132) ∈ lw_tbl := in_5 (List.mem_of_getElem? (i := 162) rfl)
set_option maxRecDepth 20000 in
theorem cw_102 : Cond.code (yM 102) (bM 102) (mxx 102) (rM 102) ∈ lw_tbl := in_5 (List.mem_of_getElem? (i := 166) rfl)
set_option maxRecDepth 20000 in
theorem cw_101 : Cond.code (yM 101) (bM 101) (mxx 101) (rM 101) ∈ lw_tbl := in_5 (List.mem_of_getElem? (i := 170) rfl)
set_option maxRecDepth 20000 in
theorem cw_100 : Cond.code (yM 100) (bM 100) (mxx 100) (rM 100) ∈ lw_tbl := in_5 (List.mem_of_getElem? (i := 173) rfl)
set_option maxRecDepth 20000 in
theorem cw_116 : Cond.code (yM 116) (bM 116) (mxx 116) (rM 116) ∈ lw_tbl := in_5 (List.mem_of_getElem? (i := 178) rfl)
set_option maxRecDepth 20000 in
theorem cw_90 : Cond.code (yM 90) (bM 90) (mxx 90) (rM 90) ∈ lw_tbl := in_5 (List.mem_of_getElem? (i := 183) rfl)
set_option maxRecDepth 20000 in
theorem cw_37 : Cond.code (yM 37) (bM 37) (mxx 37) (rM 37) ∈ lw_tbl := in_5 (List.mem_of_getElem? (i := 186) rfl)
set_option maxRecDepth 20000 in
theorem cw_39 : Cond.code (yM 39) (bM 39) (mxx 39) (rM 39) ∈ lw_tbl := in_5 (List.mem_of_getElem? (i := 192) rfl)
set_option maxRecDepth 20000 in
theorem cw_38 : Cond.code (yM 38) (bM 38) (mxx 38) (rM 38) ∈ lw_tbl := in_5 (List.mem_of_getElem? (i := 195) rfl)
set_option maxRecDepth 20000 in
theorem cw_35 : Cond.code (yM 35) (bM 35) (mxx 35) (rM 35) ∈ lw_tbl := in_5 (List.mem_of_getElem? (i := 199) rfl)
set_option maxRecDepth 20000 in
theorem cw_36 : Cond.code (yM 36) (bM 36) (mxx 36) (rM 36) ∈ lw_tbl := in_5 (List.mem_of_getElem? (i := 202) rfl)
set_option maxRecDepth 20000 in
theorem cw_256 : Cond.code (yM 256) (bM 256) (mxx 256) (rM 256) ∈ lw_tbl := in_5 (List.mem_of_getElem? (i := 206) rfl)
set_option maxRecDepth 20000 in
theorem cw_260 : Cond.code (yM 260) (bM 260) (mxx 260) (rM 260) ∈ lw_tbl := in_5 (List.mem_of_getElem? (i := 210) rfl)
set_option maxRecDepth 20000 in
theorem cw_259 : Cond.code (yM 259) (bM 259) (mxx 259) (rM 259) ∈ lw_tbl := in_5 (List.mem_of_getElem? (i := 214) rfl)
set_option maxRecDepth 20000 in
theorem cw_95 : Cond.code (yM 95) (bM 95) (mxx 95) (rM 95) ∈ lw_tbl := in_5 (List.mem_of_getElem? (i := 218) rfl)
set_option maxRecDepth 20000 in
theorem cw_33 : Cond.code (yM 33) (bM 33) (mxx 33) (rM 33) ∈ lw_tbl := in_5 (List.mem_of_getElem? (i := 222) rfl)
set_option maxRecDepth 20000 in
theorem cw_28 : Cond.code (yM 28) (bM 28) (mxx 28) (rM 28) ∈ lw_tbl := in_5 (List.mem_of_getElem? (i := 225) rfl)
set_option maxRecDepth 20000 in
theorem cw_30 : Cond.code (yM 30) (bM 30) (mxx 30) (rM 30) ∈ lw_tbl := in_5 (List.mem_of_getElem? (i := 230) rfl)
set_option maxRecDepth 20000 in
theorem cw_34 : Cond.code (yM 34) (bM 34) (mxx 34) (rM 34) ∈ lw_tbl := in_5 (List.mem_of_getElem? (i := 235) rfl)
set_option maxRecDepth 20000 in
theorem cw_13 : Cond.code (yM 13) (bM 13) (mxx 13) (rM 13) ∈ lw_tbl := in_5 (List.mem_of_getElem? (i := 239) rfl)
set_option maxRecDepth 20000 in
theorem cw_265 : Cond.code (yM 265) (bM 265) (mxx 265) (rM 265) ∈ lw_tbl := in_6 (List.mem_of_getElem? (i := 4) rfl)
set_option maxRecDepth 20000 in
theorem cw_264 : Cond.code (yM 264) (bM 264) (mxx 264) (rM 264) ∈ lw_tbl := in_6 (List.mem_of_getElem? (i := 8) rfl)
set_option maxRecDepth 20000 in
theorem cw_339 : Cond.code (yM 339) (bM 339) (mxx 339) (rM 339) ∈ lw_tbl := in_6 (List.mem_of_getElem? (i := 132) rfl)
set_option maxRecDepth 20000 in
theorem cw_266 : Cond.code (yM 266) (bM 266) (mxx 266) (rM 266) ∈ lw_tbl := in_6 (List.mem_of_getElem? (i := 135) rfl)
set_option maxRecDepth 20000 in
theorem cw_338 : Cond.code (yM 338) (bM 338) (mxx 338) (rM 338) ∈ lw_tbl := in_6 (List.mem_of_getElem? (i := 139) rfl)
set_option maxRecDepth 20000 in
theorem cw_372 : Cond.code (yM 372) (bM 372) (mxx 372) (rM 372) ∈ lw_tbl := in_6 (List.mem_of_getElem? (i := 143) rfl)
set_option maxRecDepth 20000 in
theorem cw_277 : Cond.code (yM 277) (bM 277) (mxx 277) (rM 277) ∈ lw_tbl := in_6 (List.mem_of_getElem? (i := 147) rfl)
set_option maxRecDepth 20000 in
theorem cw_326 : Cond.code (yM 326) (bM 326) (mxx 326) (rM 326) ∈ lw_tbl := in_6 (List.mem_of_getElem? (i := 151) rfl)
set_option maxRecDepth 20000 in
theorem cw_325 : Cond.code (yM 325) (bM 325) (mxx 325) (rM 325) ∈ lw_tbl := in_6 (List.mem_of_getElem? (i := 155) rfl)
set_option maxRecDepth 20000 in
theorem cw_323 : Cond.code (yM 323) (bM 323) (mxx 323) (rM 323) ∈ lw_tbl := in_6 (List.mem_of_getElem? (i := 159) rfl)
set_option maxRecDepth 20000 in
theorem cw_409 : Cond.code (yM 409) (bM 409) (mxx 409) (rM 409) ∈ lw_tbl := in_6 (List.mem_of_getElem? (i := 163) rfl)
set_option maxRecDepth 20000 in
theorem cw_408 : Cond.code (yM 408) (bM 408) (mxx 408) (rM 408) ∈ lw_tbl := in_6 (List.mem_of_getElem? (i := 167) rfl)
set_option maxRecDepth 20000 in
theorem cw_378 : Cond.code (yM 378) (bM 378) (mxx 378) (rM 378) ∈ lw_tbl := in_6 (List.mem_of_getElem? (i := 171) rfl)
set_option maxRecDepth 20000 in
theorem cw_374 : Cond.code (yM 374) (bM 374) (mxx 374) (rM 374) ∈ lw_tbl := in_6 (List.mem_of_getElem? (i := 175) rfl)
set_option maxRecDepth 20000 in
theorem cw_375 : Cond.code (yM 375) (bM 375) (mxx 375) (rM 375) ∈ lw_tbl := in_6 (List.mem_of_getElem? (i := 178) rfl)
set_option maxRecDepth 20000 in
theorem cw_376 : Cond.code (yM 376) (bM 376) (mxx 376) (rM 376) ∈ lw_tbl := in_6 (List.mem_of_getElem? (i := 182) rfl)
set_option maxRecDepth 20000 in
theorem cw_377 : Cond.code (yM 377) (bM 377) (mxx 377) (rM 377) ∈ lw_tbl := in_6 (List.mem_of_getElem? (i := 186) rfl)
set_option maxRecDepth 20000 in
theorem cw_407 : Cond.code (yM 407) (bM 407) (mxx 407) (rM 407) ∈ lw_tbl := in_6 (List.mem_of_getElem? (i := 190) rfl)
set_option maxRecDepth 20000 in
theorem cw_406 : Cond.code (yM 406) (bM 406) (mxx 406) (rM 406) ∈ lw_tbl := in_6 (List.mem_of_getElem? (i := 194) rfl)
set_option maxRecDepth 20000 in
theorem cw_405 : Cond.code (yM 405) (bM 405) (mxx 405) (rM 405) ∈ lw_tbl := in_6 (List.mem_of_getElem? (i := 198) rfl)
set_option maxRecDepth 20000 in
theorem cw_389 : Cond.code (yM 389) (bM 389) (mxx 389) (rM 389) ∈ lw_tbl := in_6 (List.mem_of_getElem? (i := 201) rfl)
set_option maxRecDepth 20000 in
theorem cw_388 : Cond.code (yM 388) (bM 388) (mxx 388) (rM 388) ∈ lw_tbl := in_6 (List.mem_of_getElem? (i := 204) rfl)
set_option maxRecDepth 20000 in
theorem cw_387 : Cond.code (yM 387) (bM 387) (mxx 387) (rM 387) ∈ lw_tbl := in_6 (List.mem_of_getElem? (i := 207) rfl)
set_option maxRecDepth 20000 in
theorem cw_390 : Cond.code (yM 390) (bM 390) (mxx 390) (rM 390) ∈ lw_tbl := in_6 (List.mem_of_getElem? (i := 210) rfl)
set_option maxRecDepth 20000 in
theorem cw_386 : Cond.code (yM 386) (bM 386) (mxx 386) (rM 386) ∈ lw_tbl := in_6 (List.mem_of_getElem? (i := 214) rfl)
set_option maxRecDepth 20000 in
theorem cw_391 : Cond.code (yM 391) (bM 391) (mxx 391) (rM 391) ∈ lw_tbl := in_6 (List.mem_of_getElem? (i := 217) rfl)
set_option maxRecDepth 20000 in
theorem cw_312 : Cond.code (yM 312) (bM 312) (mxx 312) (rM 312) ∈ lw_tbl := in_6 (List.mem_of_getElem? (i := 220) rfl)
set_option maxRecDepth 20000 in
theorem cw_404 : Cond.code (yM 404) (bM 404) (mxx 404) (rM 404) ∈ lw_tbl := in_6 (List.mem_of_getElem? (i := 224) rfl)
set_option maxRecDepth 20000 in
theorem cw_403 : Cond.code (yM 403) (bM 403) (mxx 403) (rM 403) ∈ lw_tbl := in_6 (List.mem_of_getElem? (i := 228) rfl)
set_option maxRecDepth 20000 in
theorem cw_379 : Cond.code (yM 379) (bM 379) (mxx 379) (rM 379) ∈ lw_tbl := in_6 (List.mem_of_getElem? (i := 232) rfl)
set_option maxRecDepth 20000 in
theorem cw_402 : Cond.code (yM 402) (bM 402) (mxx 402) (rM 402) ∈ lw_tbl := in_6 (List.mem_of_getElem? (i := 236) rfl)
set_option maxRecDepth 20000 in
theorem cw_401 : Cond.code (yM 401) (bM 401) (mxx 401) (rM 401) ∈ lw_tbl := in_7 (List.mem_of_getElem? (i := 0) rfl)
set_option maxRecDepth 20000 in
theorem cw_400 : Cond.code (yM 400) (bM 400) (mxx 400) (rM 400) ∈ lw_tbl := in_7 (List.mem_of_getElem? (i := 4) rfl)
set_option maxRecDepth 20000 in
theorem cw_398 : Cond.code (yM 398) (bM 398) (mxx 398) (rM 398) ∈ lw_tbl := in_7 (List.mem_of_getElem? (i := 8) rfl)
set_option maxRecDepth 20000 in
theorem cw_382 : Cond.code (yM 382) (bM 382) (mxx 382) (rM 382) ∈ lw_tbl := in_7 (List.mem_of_getElem? (i := 12) rfl)
set_option maxRecDepth 20000 in
theorem cw_381 : Cond.code (yM 381) (bM 381) (mxx 381) (rM 381) ∈ lw_tbl := in_7 (List.mem_of_getElem? (i := 16) rfl)
set_option maxRecDepth 20000 in
theorem cw_397 : Cond.code (yM 397) (bM 397) (mxx 397) (rM 397) ∈ lw_tbl := in_7 (List.mem_of_getElem? (i := 20) rfl)
set_option maxRecDepth 20000 in
theorem cw_383 : Cond.code (yM 383) (bM 383) (mxx 383) (rM 383) ∈ lw_tbl := in_7 (List.mem_of_getElem? (i := 23) rfl)
set_option maxRecDepth 20000 in
theorem cw_396 : Cond.code (yM 396) (bM 396) (mxx 396) (rM 396) ∈ lw_tbl := in_7 (List.mem_of_getElem? (i := 27) rfl)
set_option maxRecDepth 20000 in
theorem cw_394 : Cond.code (yM 394) (bM 394) (mxx 394) (rM 394) ∈ lw_tbl := in_7 (List.mem_of_getElem? (i := 31) rfl)
set_option maxRecDepth 20000 in
theorem cw_380 : Cond.code (yM 380) (bM 380) (mxx 380) (rM 380) ∈ lw_tbl := in_7 (List.mem_of_getElem? (i := 35) rfl)
set_option maxRecDepth 20000 in
theorem cw_399 : Cond.code (yM 399) (bM 399) (mxx 399) (rM 399) ∈ lw_tbl := in_7 (List.mem_of_getElem? (i := 39) rfl)
set_option maxRecDepth 20000 in
theorem cw_395 : Cond.code (yM 395) (bM 395) (mxx 395) (rM 395) ∈ lw_tbl := in_7 (List.mem_of_getElem? (i := 43) rfl)
set_option maxRecDepth 20000 in
theorem cw_392 : Cond.code (yM 392) (bM 392) (mxx 392) (rM 392) ∈ lw_tbl := in_7 (List.mem_of_getElem? (i := 47) rfl)
set_option maxRecDepth 20000 in
theorem cw_385 : Cond.code (yM 385) (bM 385) (mxx 385) (rM 385) ∈ lw_tbl := in_7 (List.mem_of_getElem? (i := 51) rfl)
set_option maxRecDepth 20000 in
theorem cw_393 : Cond.code (yM 393) (bM 393) (mxx 393) (rM 393) ∈ lw_tbl := in_7 (List.mem_of_getElem? (i := 55) rfl)
set_option maxRecDepth 20000 in
theorem cw_384 : Cond.code (yM 384) (bM 384) (mxx 384) (rM 384) ∈ lw_tbl := in_7 (List.mem_of_getElem? (i := 59) rfl)
set_option maxRecDepth 20000 in
theorem cw_324 : Cond.code (yM 324) (bM 324) (mxx 324) (rM 324) ∈ lw_tbl := in_7 (List.mem_of_getElem? (i := 63) rfl)
set_option maxRecDepth 20000 in
theorem cw_289 : Cond.code (yM 289) (bM 289) (mxx 289) (rM 289) ∈ lw_tbl := in_7 (List.mem_of_getElem? (i := 67) rfl)
set_option maxRecDepth 20000 in
theorem cw_411 : Cond.code (yM 411) (bM 411) (mxx 411) (rM 411) ∈ lw_tbl := in_7 (List.mem_of_getElem? (i := 71) rfl)
set_option maxRecDepth 20000 in
theorem cw_358 : Cond.code (yM 358) (bM 358) (mxx 358) (rM 358) ∈ lw_tbl := in_7 (List.mem_of_getElem? (i := 75) rfl)
set_option maxRecDepth 20000 in
theorem cw_313 : Cond.code (yM 313) (bM 313) (mxx 313) (rM 313) ∈ lw_tbl := in_7 (List.mem_of_getElem? (i := 79) rfl)
set_option maxRecDepth 20000 in
theorem cw_297 : Cond.code (yM 297) (bM 297) (mxx 297) (rM 297) ∈ lw_tbl := in_7 (List.mem_of_getElem? (i := 83) rfl)
set_option maxRecDepth 20000 in
theorem cw_314 : Cond.code (yM 314) (bM 314) (mxx 314) (rM 314) ∈ lw_tbl := in_7 (List.mem_of_getElem? (i := 87) rfl)
set_option maxRecDepth 20000 in
theorem cw_300 : Cond.code (yM 300) (bM 300) (mxx 300) (rM 300) ∈ lw_tbl := in_7 (List.mem_of_getElem? (i := 90) rfl)
set_option maxRecDepth 20000 in
theorem cw_322 : Cond.code (yM 322) (bM 322) (mxx 322) (rM 322) ∈ lw_tbl := in_7 (List.mem_of_getElem? (i := 94) rfl)
set_option maxRecDepth 20000 in
theorem cw_321 : Cond.code (yM 321) (bM 321) (mxx 321) (rM 321) ∈ lw_tbl := in_7 (List.mem_of_getElem? (i := 98) rfl)
set_option maxRecDepth 20000 in
theorem cw_359 : Cond.code (yM 359) (bM 359) (mxx 359) (rM 359) ∈ lw_tbl := in_7 (List.mem_of_getElem? (i := 102) rfl)
set_option maxRecDepth 20000 in
theorem cw_360 : Cond.code (yM 360) (bM 360) (mxx 360) (rM 360) ∈ lw_tbl := in_7 (List.mem_of_getElem? (i := 106) rfl)
set_option maxRecDepth 20000 in
theorem cw_346 : Cond.code (yM 346) (bM 346) (mxx 346) (rM 346) ∈ lw_tbl := in_7 (List.mem_of_getElem? (i := 110) rfl)
set_option maxRecDepth 20000 in
theorem cw_320 : Cond.code (yM 320) (bM 320) (mxx 320) (rM 320) ∈ lw_tbl := in_7 (List.mem_of_getElem? (i := 114) rfl)
set_option maxRecDepth 20000 in
theorem cw_319 : Cond.code (yM 319) (bM 319) (mxx 319) (rM 319) ∈ lw_tbl := in_7 (List.mem_of_getElem? (i := 118) rfl)
set_option maxRecDepth 20000 in
theorem cw_318 : Cond.code (yM 318) (bM 318) (mxx 318) (rM 318) ∈ lw_tbl := in_7 (List.mem_of_getElem? (i := 122) rfl)
set_option maxRecDepth 20000 in
theorem cw_278 : Cond.code (yM 278) (bM 278) (mxx 278) (rM 278) ∈ lw_tbl := in_7 (List.mem_of_getElem? (i := 126) rfl)
set_option maxRecDepth 20000 in
theorem cw_311 : Cond.code (yM 311) (bM 311) (mxx 311) (rM 311) ∈ lw_tbl := in_7 (List.mem_of_getElem? (i := 130) rfl)
set_option maxRecDepth 20000 in
theorem cw_310 : Cond.code (yM 310) (bM 310) (mxx 310) (rM 310) ∈ lw_tbl := in_7 (List.mem_of_getElem? (i := 134) rfl)
set_option maxRecDepth 20000 in
theorem cw_317 : Cond.code (yM 317) (bM 317) (mxx 317) (rM 317) ∈ lw_tbl := in_7 (List.mem_of_getElem? (i := 141) rfl)
set_option maxRecDepth 20000 in
theorem cw_299 : Cond.code (yM 299) (bM 299) (mxx 299) (rM 299) ∈ lw_tbl := in_7 (List.mem_of_getElem? (i := 145) rfl)
set_option maxRecDepth 20000 in
theorem cw_298 : Cond.code (yM 298) (bM 298) (mxx 298) (rM 298) ∈ lw_tbl := in_7 (List.mem_of_getElem? (i := 149) rfl)
set_option maxRecDepth 20000 in
theorem cw_308 : Cond.code (yM 308) (bM 308) (mxx 308) (rM 308) ∈ lw_tbl := in_7 (List.mem_of_getElem? (i := 153) rfl)
set_option maxRecDepth 20000 in
theorem cw_307 : Cond.code (yM 307) (bM 307) (mxx 307) (rM 307) ∈ lw_tbl := in_7 (List.mem_of_getElem? (i := 157) rfl)
set_option maxRecDepth 20000 in
theorem cw_304 : Cond.code (yM 304) (bM 304) (mxx 304) (rM 304) ∈ lw_tbl := in_7 (List.mem_of_getElem? (i := 161) rfl)
set_option maxRecDepth 20000 in
theorem cw_303 : Cond.code (yM 303) (bM 303) (mxx 303) (rM 303) ∈ lw_tbl := in_7 (List.mem_of_getElem? (i := 165) rfl)
set_option maxRecDepth 20000 in
theorem cw_306 : Cond.code (yM 306) (bM 306) (mxx 306) (rM 306) ∈ lw_tbl := in_7 (List.mem_of_getElem? (i := 168) rfl)
set_option maxRecDepth 20000 in
theorem cw_305 : Cond.code (yM 305) (bM 305) (mxx 305) (rM 305) ∈ lw_tbl := in_7 (List.mem_of_getElem? (i := 171) rfl)
set_option maxRecDepth 20000 in
theorem cw_301 : Cond.code (yM 301) (bM 301) (mxx 301) (rM 301) ∈ lw_tbl := in_7 (List.mem_of_getElem? (i := 176) rfl)
set_option maxRecDepth 20000 in
theorem cw_302 : Cond.code (yM 302) (bM 302) (mxx 302) (rM 302) ∈ lw_tbl := in_7 (List.mem_of_getElem? (i := 179) rfl)
set_option maxRecDepth 20000 in
theorem cw_309 : Cond.code (yM 309) (bM 309) (mxx 309) (rM 309) ∈ lw_tbl := in_7 (List.mem_of_getElem? (i := 183) rfl)
set_option maxRecDepth 20000 in
theorem cw_316 : Cond.code (yM 316) (bM 316) (mxx 316) (rM 316) ∈ lw_tbl := in_7 (List.mem_of_getElem? (i := 187) rfl)
set_option maxRecDepth 20000 in
theorem cw_315 : Cond.code (yM 315) (bM 315) (mxx 315) (rM 315) ∈ lw_tbl := in_7 (List.mem_of_getElem? (i := 191) rfl)
set_option maxRecDepth 20000 in
theorem cw_362 : Cond.code (yM 362) (bM 362) (mxx 362) (rM 362) ∈ lw_tbl := in_7 (List.mem_of_getElem? (i := 195) rfl)
set_option maxRecDepth 20000 in
theorem cw_361 : Cond.code (yM 361) (bM 361) (mxx 361) (rM 361) ∈ lw_tbl := in_7 (List.mem_of_getElem? (i := 199) rfl)
set_option maxRecDepth 20000 in
theorem cw_414 : Cond.code (yM 414) (bM 414) (mxx 414) (rM 414) ∈ lw_tbl := in_7 (List.mem_of_getElem? (i := 208) rfl)
set_option maxRecDepth 20000 in
theorem cw_413 : Cond.code (yM 413) (bM 413) (mxx 413) (rM 413) ∈ lw_tbl := in_7 (List.mem_of_getElem? (i := 212) rfl)
set_option maxRecDepth 20000 in
theorem cw_357 : Cond.code (yM 357) (bM 357) (mxx 357) (rM 357) ∈ lw_tbl := in_7 (List.mem_of_getElem? (i := 216) rfl)
set_option maxRecDepth 20000 in
theorem cw_279 : Cond.code (yM 279) (bM 279) (mxx 279) (rM 279) ∈ lw_tbl := in_7 (List.mem_of_getElem? (i := 220) rfl)
set_option maxRecDepth 20000 in
theorem cw_337 : Cond.code (yM 337) (bM 337) (mxx 337) (rM 337) ∈ lw_tbl := in_7 (List.mem_of_getElem? (i := 224) rfl)
set_option maxRecDepth 20000 in
theorem cw_288 : Cond.code (yM 288) (bM 288) (mxx 288) (rM 288) ∈ lw_tbl := in_7 (List.mem_of_getElem? (i := 228) rfl)
set_option maxRecDepth 20000 in
theorem cw_287 : Cond.code (yM 287) (bM 287) (mxx 287) (rM 287) ∈ lw_tbl := in_7 (List.mem_of_getElem? (i := 232) rfl)
set_option maxRecDepth 20000 in
theorem cw_343 : Cond.code (yM 343) (bM 343) (mxx 343) (rM 343) ∈ lw_tbl := in_7 (List.mem_of_getElem? (i := 236) rfl)
set_option maxRecDepth 20000 in
theorem cw_331 : Cond.code (yM 331) (bM 331) (mxx 331) (rM 331) ∈ lw_tbl := in_8 (List.mem_of_getElem? (i := 0) rfl)
set_option maxRecDepth 20000 in
theorem cw_290 : Cond.code (yM 290) (bM 290) (mxx 290) (rM 290) ∈ lw_tbl := in_8 (List.mem_of_getElem? (i := 4) rfl)
set_option maxRecDepth 20000 in
theorem cw_330 : Cond.code (yM 330) (bM 330) (mxx 330) (rM 330) ∈ lw_tbl := in_8 (List.mem_of_getElem? (i := 8) rfl)
set_option maxRecDepth 20000 in
theorem cw_368 : Cond.code (yM 368) (bM 368) (mxx 368) (rM 368) ∈ lw_tbl := in_8 (List.mem_of_getElem? (i := 12) rfl)
set_option maxRecDepth 20000 in
theorem cw_367 : Cond.code (yM 367) (bM 367) (mxx 367) (rM 367) ∈ lw_tbl := in_8 (List.mem_of_getElem? (i := 16) rfl)
set_option maxRecDepth 20000 in
theorem cw_366 : Cond.code (yM 366) (bM 366) (mxx 366) (rM 366) ∈ lw_tbl := in_8 (List.mem_of_getElem? (i := 21) rfl)
set_option maxRecDepth 20000 in
theorem cw_364 : Cond.code (yM 364) (bM 364) (mxx 364) (rM 364) ∈ lw_tbl := in_8 (List.mem_of_getElem? (i := 24) rfl)
set_option maxRecDepth 20000 in
theorem cw_365 : Cond.code (yM 365) (bM 365) (mxx 365) (rM 365) ∈ lw_tbl := in_8 (List.mem_of_getElem? (i := 28) rfl)
set_option maxRecDepth 20000 in
theorem cw_344 : Cond.code (yM 344) (bM 344) (mxx 344) (rM 344) ∈ lw_tbl := in_8 (List.mem_of_getElem? (i := 32) rfl)
set_option maxRecDepth 20000 in
theorem cw_370 : Cond.code (yM 370) (bM 370) (mxx 370) (rM 370) ∈ lw_tbl := in_8 (List.mem_of_getElem? (i := 36) rfl)
set_option maxRecDepth 20000 in
theorem cw_371 : Cond.code (yM 371) (bM 371) (mxx 371) (rM 371) ∈ lw_tbl := in_8 (List.mem_of_getElem? (i := 40) rfl)
set_option maxRecDepth 20000 in
theorem cw_373 : Cond.code (yM 373) (bM 373) (mxx 373) (rM 373) ∈ lw_tbl := in_8 (List.mem_of_getElem? (i := 44) rfl)
set_option maxRecDepth 20000 in
theorem cw_345 : Cond.code (yM 345) (bM 345) (mxx 345) (rM 345) ∈ lw_tbl := in_8 (List.mem_of_getElem? (i := 48) rfl)
set_option maxRecDepth 20000 in
theorem cw_347 : Cond.code (yM 347) (bM 347) (mxx 347) (rM 347) ∈ lw_tbl := in_8 (List.mem_of_getElem? (i := 52) rfl)
set_option maxRecDepth 20000 in
theorem cw_335 : Cond.code (yM 335) (bM 335) (mxx 335) (rM 335) ∈ lw_tbl := in_8 (List.mem_of_getElem? (i := 56) rfl)
set_option maxRecDepth 20000 in
theorem cw_329 : Cond.code (yM 329) (bM 329) (mxx 329) (rM 329) ∈ lw_tbl := in_8 (List.mem_of_getElem? (i := 60) rfl)
set_option maxRecDepth 20000 in
theorem cw_291 : Cond.code (yM 291) (bM 291) (mxx 291) (rM 291) ∈ lw_tbl := in_8 (List.mem_of_getElem? (i := 63) rfl)
set_option maxRecDepth 20000 in
theorem cw_294 : Cond.code (yM 294) (bM 294) (mxx 294) (rM 294) ∈ lw_tbl := in_8 (List.mem_of_getElem? (i := 67) rfl)
set_option maxRecDepth 20000 in
theorem cw_292 : Cond.code (yM 292) (bM 292) (mxx 292) (rM 292) ∈ lw_tbl := in_8 (List.mem_of_getElem? (i := 70) rfl)
set_option maxRecDepth 20000 in
theorem cw_293 : Cond.code (yM 293) (bM 293) (mxx 293) (rM 293) ∈ lw_tbl := in_8 (List.mem_of_getElem? (i := 73) rfl)
set_option maxRecDepth 20000 in
theorem cw_296 : Cond.code (yM 296) (bM 296) (mxx 296) (rM 296) ∈ lw_tbl := in_8 (List.mem_of_getElem? (i := 77) rfl)
set_option maxRecDepth 20000 in
theorem cw_295 : Cond.code (yM 295) (bM 295) (mxx 295) (rM 295) ∈ lw_tbl := in_8 (List.mem_of_getElem? (i := 80) rfl)
set_option maxRecDepth 20000 in
theorem cw_334 : Cond.code (yM 334) (bM 334) (mxx 334) (rM 334) ∈ lw_tbl := in_8 (List.mem_of_getElem? (i := 84) rfl)
set_option maxRecDepth 20000 in
theorem cw_271 : Cond.code (yM 271) (bM 271) (mxx 271) (rM 271) ∈ lw_tbl := in_8 (List.mem_of_getElem? (i := 87) rfl)
set_option maxRecDepth 20000 in
theorem cw_272 : Cond.code (yM 272) (bM 272) (mxx 272) (rM 272) ∈ lw_tbl := in_8 (List.mem_of_getElem? (i := 91) rfl)
set_option maxRecDepth 20000 in
theorem cw_270 : Cond.code (yM 270) (bM 270) (mxx 270) (rM 270) ∈ lw_tbl := in_8 (List.mem_of_getElem? (i := 94) rfl)
set_option maxRecDepth 20000 in
theorem cw_268 : Cond.code (yM 268) (bM 268) (mxx 268) (rM 268) ∈ lw_tbl := in_8 (List.mem_of_getElem? (i := 97) rfl)
set_option maxRecDepth 20000 in
theorem cw_269 : Cond.code (yM 269) (bM 269) (mxx 269) (rM 269) ∈ lw_tbl := in_8 (List.mem_of_getElem? (i := 100) rfl)
set_option maxRecDepth 20000 in
theorem cw_328 : Cond.code (yM 328) (bM 328) (mxx 328) (rM 328) ∈ lw_tbl := in_8 (List.mem_of_getElem? (i := 104) rfl)
set_option maxRecDepth 20000 in
theorem cw_274 : Cond.code (yM 274) (bM 274) (mxx 274) (rM 274) ∈ lw_tbl := in_8 (List.mem_of_getElem? (i := 108) rfl)
set_option maxRecDepth 20000 in
theorem cw_327 : Cond.code (yM 327) (bM 327) (mxx 327) (rM 327) ∈ lw_tbl := in_8 (List.mem_of_getElem? (i := 112) rfl)
set_option maxRecDepth 20000 in
theorem cw_276 : Cond.code (yM 276) (bM 276) (mxx 276) (rM 276) ∈ lw_tbl := in_8 (List.mem_of_getElem? (i := 116) rfl)
set_option maxRecDepth 20000 in
theorem cw_275 : Cond.code (yM 275) (bM 275) (mxx 275) (rM 275) ∈ lw_tbl := in_8 (List.mem_of_getElem? (i := 120) rfl)
set_option maxRecDepth 20000 in
theorem cw_273 : Cond.code (yM 273) (bM 273) (mxx 273) (rM 273) ∈ lw_tbl := in_8 (List.mem_of_getElem? (i := 124) rfl)
set_option maxRecDepth 20000 in
theorem cw_332 : Cond.code (yM 332) (bM 332) (mxx 332) (rM 332) ∈ lw_tbl := in_8 (List.mem_of_getElem? (i := 128) rfl)
set_option maxRecDepth 20000 in
theorem cw_363 : Cond.code (yM 363) (bM 363) (mxx 363) (rM 363) ∈ lw_tbl := in_8 (List.mem_of_getElem? (i := 132) rfl)
set_option maxRecDepth 20000 in
theorem cw_349 : Cond.code (yM 349) (bM 349) (mxx 349) (rM 349) ∈ lw_tbl := in_8 (List.mem_of_getElem? (i := 136) rfl)
set_option maxRecDepth 20000 in
theorem cw_353 : Cond.code (yM 353) (bM 353) (mxx 353) (rM 353) ∈ lw_tbl := in_8 (List.mem_of_getElem? (i := 140) rfl)
set_option maxRecDepth 20000 in
theorem cw_352 : Cond.code (yM 352) (bM 352) (mxx 352) (rM 352) ∈ lw_tbl := in_8 (List.mem_of_getElem? (i := 144) rfl)
set_option maxRecDepth 20000 in
theorem cw_351 : Cond.code (yM 351) (bM 351) (mxx 351) (rM 351) ∈ lw_tbl := in_8 (List.mem_of_getElem? (i := 148) rfl)
set_option maxRecDepth 20000 in
theorem cw_350 : Cond.code (yM 350) (bM 350) (mxx 350) (rM 350) ∈ lw_tbl := in_8 (List.mem_of_getElem? (i := 152) rfl)
set_option maxRecDepth 20000 in
theorem cw_348 : Cond.code (yM 348) (bM 348) (mxx 348) (rM 348) ∈ lw_tbl := in_8 (List.mem_of_getElem? (i := 155) rfl)
set_option maxRecDepth 20000 in
theorem cw_369 : Cond.code (yM 369) (bM 369) (mxx 369) (rM 369) ∈ lw_tbl := in_8 (List.mem_of_getElem? (i := 159) rfl)
set_option maxRecDepth 20000 in
theorem cw_342 : Cond.code (yM 342) (bM 342) (mxx 342) (rM 342) ∈ lw_tbl := in_8 (List.mem_of_getElem? (i := 163) rfl)
set_option maxRecDepth 20000 in
theorem cw_341 : Cond.code (yM 341) (bM 341) (mxx 341) (rM 341) ∈ lw_tbl := in_8 (List.mem_of_getElem? (i := 167) rfl)
set_option maxRecDepth 20000 in
theorem cw_340 : Cond.code (yM 340) (bM 340) (mxx 340) (rM 340) ∈ lw_tbl := in_8 (List.mem_of_getElem? (i := 170) rfl)
set_option maxRecDepth 20000 in
theorem cw_356 : Cond.code (yM 356) (bM 356) (mxx 356) (rM 356) ∈ lw_tbl := in_8 (List.mem_of_getElem? (i := 174) rfl)
set_option maxRecDepth 20000 in
theorem cw_355 : Cond.code (yM 355) (bM 355) (mxx 355) (rM 355) ∈ lw_tbl := in_8 (List.mem_of_getElem? (i := 178) rfl)
set_option maxRecDepth 20000 in
theorem cw_354 : Cond.code (yM 354) (bM 354) (mxx 354) (rM 354) ∈ lw_tbl := in_8 (List.mem_of_getElem? (i := 181) rfl)
set_option maxRecDepth 20000 in
theorem cw_333 : Cond.code (yM 333) (bM 333) (mxx 333) (rM 333) ∈ lw_tbl := in_8 (List.mem_of_getElem? (i := 185) rfl)
set_option maxRecDepth 20000 in
theorem cw_285 : Cond.code (yM 285) (bM 285) (mxx 285) (rM 285) ∈ lw_tbl := in_8 (List.mem_of_getElem? (i := 189) rfl)
set_option maxRecDepth 20000 in
theorem cw_284 : Cond.code (yM 284) (bM 284) (mxx 284) (rM 284) ∈ lw_tbl := in_8 (List.mem_of_getElem? (i := 192) rfl)
set_option maxRecDepth 20000 in
theorem cw_281 : Cond.code (yM 281) (bM 281) (mxx 281) (rM 281) ∈ lw_tbl := in_8 (List.mem_of_getElem? (i := 195) rfl)
set_option maxRecDepth 20000 in
theorem cw_283 : Cond.code (yM 283) (bM 283) (mxx 283) (rM 283) ∈ lw_tbl := in_8 (List.mem_of_getElem? (i := 199) rfl)
set_option maxRecDepth 20000 in
theorem cw_282 : Cond.code (yM 282) (bM 282) (mxx 282) (rM 282) ∈ lw_tbl := in_8 (List.mem_of_getElem? (i := 202) rfl)
set_option maxRecDepth 20000 in
theorem cw_286 : Cond.code (yM 286) (bM 286) (mxx 286) (rM 286) ∈ lw_tbl := in_8 (List.mem_of_getElem? (i := 206) rfl)
set_option maxRecDepth 20000 in
theorem cw_410 : Cond.code (yM 410) (bM 410) (mxx 410) (rM 410) ∈ lw_tbl := in_8 (List.mem_of_getElem? (i := 211) rfl)
set_option maxRecDepth 20000 in
theorem cw_412 : Cond.code (yM 412) (bM 412) (mxx 412) (rM 412) ∈ lw_tbl := in_8 (List.mem_of_getElem? (i := 215) rfl)
set_option maxRecDepth 20000 in
theorem cw_336 : Cond.code (yM 336) (bM 336) (mxx 336) (rM 336) ∈ lw_tbl := in_8 (List.mem_of_getElem? (i := 219) rfl)
set_option maxRecDepth 20000 in
theorem cw_280 : Cond.code (yM 280) (bM 280) (mxx 280) (rM 280) ∈ lw_tbl := in_8 (List.mem_of_getElem? (i := 223) rfl)
set_option maxRecDepth 20000 in
theorem cw_267 : Cond.code (yM 267) (bM 267) (mxx 267) (rM 267) ∈ lw_tbl := in_8 (List.mem_of_getElem? (i := 227) rfl)
set_option maxRecDepth 100000 in
theorem cw_all : ∀ M ∈ idsT, Cond.code (yM M) (bM M) (mxx M) (rM M) ∈ lw_tbl := List.forall_mem_cons.mpr ⟨cw_12, List.forall_mem_cons.mpr ⟨cw_6, List.forall_mem_cons.mpr ⟨cw_5, List.forall_mem_cons.mpr ⟨cw_4, List.forall_mem_cons.mpr ⟨cw_3, List.forall_mem_cons.mpr ⟨cw_1, List.forall_mem_cons.mpr ⟨cw_11, List.forall_mem_cons.mpr ⟨cw_7, List.forall_mem_cons.mpr ⟨cw_8, List.forall_mem_cons.mpr ⟨cw_2, List.forall_mem_cons.mpr ⟨cw_10, List.forall_mem_cons.mpr ⟨cw_9, List.forall_mem_cons.mpr ⟨cw_99, List.forall_mem_cons.mpr ⟨cw_14, List.forall_mem_cons.mpr ⟨cw_98, List.forall_mem_cons.mpr ⟨cw_19, List.forall_mem_cons.mpr ⟨cw_82, List.forall_mem_cons.mpr ⟨cw_81, List.forall_mem_cons.mpr ⟨cw_79, List.forall_mem_cons.mpr ⟨cw_255, List.forall_mem_cons.mpr ⟨cw_254, List.forall_mem_cons.mpr ⟨cw_251, List.forall_mem_cons.mpr ⟨cw_232, List.forall_mem_cons.mpr ⟨cw_233, List.forall_mem_cons.mpr ⟨cw_234, List.forall_mem_cons.mpr ⟨cw_65, List.forall_mem_cons.mpr ⟨cw_231, List.forall_mem_cons.mpr ⟨cw_244, List.forall_mem_cons.mpr ⟨cw_250, List.forall_mem_cons.mpr ⟨cw_249, List.forall_mem_cons.mpr ⟨cw_237, List.forall_mem_cons.mpr ⟨cw_236, List.forall_mem_cons.mpr ⟨cw_248, List.forall_mem_cons.mpr ⟨cw_235, List.forall_mem_cons.mpr ⟨cw_247, List.forall_mem_cons.mpr ⟨cw_246, List.forall_mem_cons.mpr ⟨cw_245, List.forall_mem_cons.mpr ⟨cw_243, List.forall_mem_cons.mpr ⟨cw_242, List.forall_mem_cons.mpr ⟨cw_241, List.forall_mem_cons.mpr ⟨cw_240, List.forall_mem_cons.mpr ⟨cw_238, List.forall_mem_cons.mpr ⟨cw_239, List.forall_mem_cons.mpr ⟨cw_138, List.forall_mem_cons.mpr ⟨cw_15, List.forall_mem_cons.mpr ⟨cw_141, List.forall_mem_cons.mpr ⟨cw_139, List.forall_mem_cons.mpr ⟨cw_140, List.forall_mem_cons.mpr ⟨cw_230, List.forall_mem_cons.mpr ⟨cw_229, List.forall_mem_cons.mpr ⟨cw_151, List.forall_mem_cons.mpr ⟨cw_150, List.forall_mem_cons.mpr ⟨cw_149, List.forall_mem_cons.mpr ⟨cw_143, List.forall_mem_cons.mpr ⟨cw_144, List.forall_mem_cons.mpr ⟨cw_61, List.forall_mem_cons.mpr ⟨cw_146, List.forall_mem_cons.mpr ⟨cw_145, List.forall_mem_cons.mpr ⟨cw_156, List.forall_mem_cons.mpr ⟨cw_142, List.forall_mem_cons.mpr ⟨cw_155, List.forall_mem_cons.mpr ⟨cw_154, List.forall_mem_cons.mpr ⟨cw_153, List.forall_mem_cons.mpr ⟨cw_152, List.forall_mem_cons.mpr ⟨cw_147, List.forall_mem_cons.mpr ⟨cw_148, List.forall_mem_cons.mpr ⟨cw_253, List.forall_mem_cons.mpr ⟨cw_252, List.forall_mem_cons.mpr ⟨cw_137, List.forall_mem_cons.mpr ⟨cw_80, List.forall_mem_cons.mpr ⟨cw_45, List.forall_mem_cons.mpr ⟨cw_119, List.forall_mem_cons.mpr ⟨cw_118, List.forall_mem_cons.mpr ⟨cw_26, List.forall_mem_cons.mpr ⟨cw_69, List.forall_mem_cons.mpr ⟨cw_55, List.forall_mem_cons.mpr ⟨cw_29, List.forall_mem_cons.mpr ⟨cw_32, List.forall_mem_cons.mpr ⟨cw_31, List.forall_mem_cons.mpr ⟨cw_70, List.forall_mem_cons.mpr ⟨cw_78, List.forall_mem_cons.mpr ⟨cw_76, List.forall_mem_cons.mpr ⟨cw_77, List.forall_mem_cons.mpr ⟨cw_121, List.forall_mem_cons.mpr ⟨cw_120, List.forall_mem_cons.mpr ⟨cw_124, List.forall_mem_cons.mpr ⟨cw_122, List.forall_mem_cons.mpr ⟨cw_123, List.forall_mem_cons.mpr ⟨cw_75, List.forall_mem_cons.mpr ⟨cw_74, List.forall_mem_cons.mpr ⟨cw_54, List.forall_mem_cons.mpr ⟨cw_53, List.forall_mem_cons.mpr ⟨cw_73, List.forall_mem_cons.mpr ⟨cw_68, List.forall_mem_cons.mpr ⟨cw_67, List.forall_mem_cons.mpr ⟨cw_64, List.forall_mem_cons.mpr ⟨cw_62, List.forall_mem_cons.mpr ⟨cw_57, List.forall_mem_cons.mpr ⟨cw_56, List.forall_mem_cons.mpr ⟨cw_63, List.forall_mem_cons.mpr ⟨cw_58, List.forall_mem_cons.mpr ⟨cw_60, List.forall_mem_cons.mpr ⟨cw_59, List.forall_mem_cons.mpr ⟨cw_66, List.forall_mem_cons.mpr ⟨cw_72, List.forall_mem_cons.mpr ⟨cw_71, List.forall_mem_cons.mpr ⟨cw_126, List.forall_mem_cons.mpr ⟨cw_125, List.forall_mem_cons.mpr ⟨cw_263, List.forall_mem_cons.mpr ⟨cw_262, List.forall_mem_cons.mpr ⟨cw_261, List.forall_mem_cons.mpr ⟨cw_258, List.forall_mem_cons.mpr ⟨cw_257, List.forall_mem_cons.mpr ⟨cw_117, List.forall_mem_cons.mpr ⟨cw_27, List.forall_mem_cons.mpr ⟨cw_97, List.forall_mem_cons.mpr ⟨cw_96, List.forall_mem_cons.mpr ⟨cw_44, List.forall_mem_cons.mpr ⟨cw_40, List.forall_mem_cons.mpr ⟨cw_43, List.forall_mem_cons.mpr ⟨cw_42, List.forall_mem_cons.mpr ⟨cw_41, List.forall_mem_cons.mpr ⟨cw_88, List.forall_mem_cons.mpr ⟨cw_87, List.forall_mem_cons.mpr ⟨cw_47, List.forall_mem_cons.mpr ⟨cw_46, List.forall_mem_cons.mpr ⟨cw_104, List.forall_mem_cons.mpr ⟨cw_103, List.forall_mem_cons.mpr ⟨cw_86, List.forall_mem_cons.mpr ⟨cw_135, List.forall_mem_cons.mpr ⟨cw_131, List.forall_mem_cons.mpr ⟨cw_130, List.forall_mem_cons.mpr ⟨cw_105, List.forall_mem_cons.mpr ⟨cw_129, List.forall_mem_cons.mpr ⟨cw_128, List.forall_mem_cons.mpr ⟨cw_107, List.forall_mem_cons.mpr ⟨cw_133, List.forall_mem_cons.mpr ⟨cw_134, List.forall_mem_cons.mpr ⟨cw_136, List.forall_mem_cons.mpr ⟨cw_106, List.forall_mem_cons.mpr ⟨cw_110, List.forall_mem_cons.mpr ⟨cw_109, List.forall_mem_cons.mpr ⟨cw_108, List.forall_mem_cons.mpr ⟨cw_94, List.forall_mem_cons.mpr ⟨cw_85, List.forall_mem_cons.mpr ⟨cw_50, List.forall_mem_cons.mpr ⟨cw_49, List.forall_mem_cons.mpr ⟨cw_48, List.forall_mem_cons.mpr ⟨cw_52, List.forall_mem_cons.mpr ⟨cw_51, List.forall_mem_cons.mpr ⟨cw_93, List.forall_mem_cons.mpr ⟨cw_92, List.forall_mem_cons.mpr ⟨cw_91, List.forall_mem_cons.mpr ⟨cw_18, List.forall_mem_cons.mpr ⟨cw_17, List.forall_mem_cons.mpr ⟨cw_16, List.forall_mem_cons.mpr ⟨cw_84, List.forall_mem_cons.mpr ⟨cw_24, List.forall_mem_cons.mpr ⟨cw_23, List.forall_mem_cons.mpr ⟨cw_83, List.forall_mem_cons.mpr ⟨cw_25, List.forall_mem_cons.mpr ⟨cw_22, List.forall_mem_cons.mpr ⟨cw_21, List.forall_mem_cons.mpr ⟨cw_20, List.forall_mem_cons.mpr ⟨cw_89, List.forall_mem_cons.mpr ⟨cw_127, List.forall_mem_cons.mpr ⟨cw_111, List.forall_mem_cons.mpr ⟨cw_115, List.forall_mem_cons.mpr ⟨cw_113, List.forall_mem_cons.mpr ⟨cw_114, List.forall_mem_cons.mpr ⟨cw_112, List.forall_mem_cons.mpr ⟨cw_132, List.forall_mem_cons.mpr ⟨cw_102, List.forall_mem_cons.mpr ⟨cw_101, List.forall_mem_cons.mpr ⟨cw_100, List.forall_mem_cons.mpr ⟨cw_116, List.forall_mem_cons.mpr ⟨cw_90, List.forall_mem_cons.mpr ⟨cw_37, List.forall_mem_cons.mpr ⟨cw_39, List.forall_mem_cons.mpr ⟨cw_38, List.forall_mem_cons.mpr ⟨cw_35, List.forall_mem_cons.mpr ⟨cw_36, List.forall_mem_cons.mpr ⟨cw_256, List.forall_mem_cons.mpr ⟨cw_260, List.forall_mem_cons.mpr ⟨cw_259, List.forall_mem_cons.mpr ⟨cw_95, List.forall_mem_cons.mpr ⟨cw_33, List.forall_mem_cons.mpr ⟨cw_28, List.forall_mem_cons.mpr ⟨cw_30, List.forall_mem_cons.mpr ⟨cw_34, List.forall_mem_cons.mpr ⟨cw_13, List.forall_mem_cons.mpr ⟨cw_265, List.forall_mem_cons.mpr ⟨cw_264, List.forall_mem_cons.mpr ⟨cw_339, List.forall_mem_cons.mpr ⟨cw_266, List.forall_mem_cons.mpr ⟨cw_338, List.forall_mem_cons.mpr ⟨cw_372, List.forall_mem_cons.mpr ⟨cw_277, List.forall_mem_cons.mpr ⟨cw_326, List.forall_mem_cons.mpr ⟨cw_325, List.forall_mem_cons.mpr ⟨cw_323, List.forall_mem_cons.mpr ⟨cw_409, List.forall_mem_cons.mpr ⟨cw_408, List.forall_mem_cons.mpr ⟨cw_378, List.forall_mem_cons.mpr ⟨cw_374, List.forall_mem_cons.mpr ⟨cw_375, List.forall_mem_cons.mpr ⟨cw_376, List.forall_mem_cons.mpr ⟨cw_377, List.forall_mem_cons.mpr ⟨cw_407, List.forall_mem_cons.mpr ⟨cw_406, List.forall_mem_cons.mpr ⟨cw_405, List.forall_mem_cons.mpr ⟨cw_389, List.forall_mem_cons.mpr ⟨cw_388, List.forall_mem_cons.mpr ⟨cw_387, List.forall_mem_cons.mpr ⟨cw_390, List.forall_mem_cons.mpr ⟨cw_386, List.forall_mem_cons.mpr ⟨cw_391, List.forall_mem_cons.mpr ⟨cw_312, List.forall_mem_cons.mpr ⟨cw_404, List.forall_mem_cons.mpr ⟨cw_403, List.forall_mem_cons.mpr ⟨cw_379, List.forall_mem_cons.mpr ⟨cw_402, List.forall_mem_cons.mpr ⟨cw_401, List.forall_mem_cons.mpr ⟨cw_400, List.forall_mem_cons.mpr ⟨cw_398, List.forall_mem_cons.mpr ⟨cw_382, List.forall_mem_cons.mpr ⟨cw_381, List.forall_mem_cons.mpr ⟨cw_397, List.forall_mem_cons.mpr ⟨cw_383, List.forall_mem_cons.mpr ⟨cw_396, List.forall_mem_cons.mpr ⟨cw_394, List.forall_mem_cons.mpr ⟨cw_380, List.forall_mem_cons.mpr ⟨cw_399, List.forall_mem_cons.mpr ⟨cw_395, List.forall_mem_cons.mpr ⟨cw_392, List.forall_mem_cons.mpr ⟨cw_385, List.forall_mem_cons.mpr ⟨cw_393, List.forall_mem_cons.mpr ⟨cw_384, List.forall_mem_cons.mpr ⟨cw_324, List.forall_mem_cons.mpr ⟨cw_289, List.forall_mem_cons.mpr ⟨cw_411, List.forall_mem_cons.mpr ⟨cw_358, List.forall_mem_cons.mpr ⟨cw_313, List.forall_mem_cons.mpr ⟨cw_297, List.forall_mem_cons.mpr ⟨cw_314, List.forall_mem_cons.mpr ⟨cw_300, List.forall_mem_cons.mpr ⟨cw_322, List.forall_mem_cons.mpr ⟨cw_321, List.forall_mem_cons.mpr ⟨cw_359, List.forall_mem_cons.mpr ⟨cw_360, List.forall_mem_cons.mpr ⟨cw_346, List.forall_mem_cons.mpr ⟨cw_320, List.forall_mem_cons.mpr ⟨cw_319, List.forall_mem_cons.mpr ⟨cw_318, List.forall_mem_cons.mpr ⟨cw_278, List.forall_mem_cons.mpr ⟨cw_311, List.forall_mem_cons.mpr ⟨cw_310, List.forall_mem_cons.mpr ⟨cw_317, List.forall_mem_cons.mpr ⟨cw_299, List.forall_mem_cons.mpr ⟨cw_298, List.forall_mem_cons.mpr ⟨cw_308, List.forall_mem_cons.mpr ⟨cw_307, List.forall_mem_cons.mpr ⟨cw_304, List.forall_mem_cons.mpr ⟨cw_303, List.forall_mem_cons.mpr ⟨cw_306, List.forall_mem_cons.mpr ⟨cw_305, List.forall_mem_cons.mpr ⟨cw_301, List.forall_mem_cons.mpr ⟨cw_302, List.forall_mem_cons.mpr ⟨cw_309, List.forall_mem_cons.mpr ⟨cw_316, List.forall_mem_cons.mpr ⟨cw_315, List.forall_mem_cons.mpr ⟨cw_362, List.forall_mem_cons.mpr ⟨cw_361, List.forall_mem_cons.mpr ⟨cw_414, List.forall_mem_cons.mpr ⟨cw_413, List.forall_mem_cons.mpr ⟨cw_357, List.forall_mem_cons.mpr ⟨cw_279, List.forall_mem_cons.mpr ⟨cw_337, List.forall_mem_cons.mpr ⟨cw_288, List.forall_mem_cons.mpr ⟨cw_287, List.forall_mem_cons.mpr ⟨cw_343, List.forall_mem_cons.mpr ⟨cw_331, List.forall_mem_cons.mpr ⟨cw_290, List.forall_mem_cons.mpr ⟨cw_330, List.forall_mem_cons.mpr ⟨cw_368, List.forall_mem_cons.mpr ⟨cw_367, List.forall_mem_cons.mpr ⟨cw_366, List.forall_mem_cons.mpr ⟨cw_364, List.forall_mem_cons.mpr ⟨cw_365, List.forall_mem_cons.mpr ⟨cw_344, List.forall_mem_cons.mpr ⟨cw_370, List.forall_mem_cons.mpr ⟨cw_371, List.forall_mem_cons.mpr ⟨cw_373, List.forall_mem_cons.mpr ⟨cw_345, List.forall_mem_cons.mpr ⟨cw_347, List.forall_mem_cons.mpr ⟨cw_335, List.forall_mem_cons.mpr ⟨cw_329, List.forall_mem_cons.mpr ⟨cw_291, List.forall_mem_cons.mpr ⟨cw_294, List.forall_mem_cons.mpr ⟨cw_292, List.forall_mem_cons.mpr ⟨cw_293, List.forall_mem_cons.mpr ⟨cw_296, List.forall_mem_cons.mpr ⟨cw_295, List.forall_mem_cons.mpr ⟨cw_334, List.forall_mem_cons.mpr ⟨cw_271, List.forall_mem_cons.mpr ⟨cw_272, List.forall_mem_cons.mpr ⟨cw_270, List.forall_mem_cons.mpr ⟨cw_268, List.forall_mem_cons.mpr ⟨cw_269, List.forall_mem_cons.mpr ⟨cw_328, List.forall_mem_cons.mpr ⟨cw_274, List.forall_mem_cons.mpr ⟨cw_327, List.forall_mem_cons.mpr ⟨cw_276, List.forall_mem_cons.mpr ⟨cw_275, List.forall_mem_cons.mpr ⟨cw_273, List.forall_mem_cons.mpr ⟨cw_332, List.forall_mem_cons.mpr ⟨cw_363, List.forall_mem_cons.mpr ⟨cw_349, List.forall_mem_cons.mpr ⟨cw_353, List.forall_mem_cons.mpr ⟨cw_352, List.forall_mem_cons.mpr ⟨cw_351, List.forall_mem_cons.mpr ⟨cw_350, List.forall_mem_cons.mpr ⟨cw_348, List.forall_mem_cons.mpr ⟨cw_369, List.forall_mem_cons.mpr ⟨cw_342, List.forall_mem_cons.mpr ⟨cw_341, List.forall_mem_cons.mpr ⟨cw_340, List.forall_mem_cons.mpr ⟨cw_356, List.forall_mem_cons.mpr ⟨cw_355, List.forall_mem_cons.mpr ⟨cw_354, List.forall_mem_cons.mpr ⟨cw_333, List.forall_mem_cons.mpr ⟨cw_285, List.forall_mem_cons.mpr ⟨cw_284, List.forall_mem_cons.mpr ⟨cw_281, List.forall_mem_cons.mpr ⟨cw_283, List.forall_mem_cons.mpr ⟨cw_282, List.forall_mem_cons.mpr ⟨cw_286, List.forall_mem_cons.mpr ⟨cw_410, List.forall_mem_cons.mpr ⟨cw_412, List.forall_mem_cons.mpr ⟨cw_336, List.forall_mem_cons.mpr ⟨cw_280, List.forall_mem_cons.mpr ⟨cw_267, fun _ h => absurd h List.not_mem_nil⟩⟩⟩⟩⟩⟩⟩⟩⟩⟩⟩⟩⟩⟩⟩⟩⟩⟩⟩⟩⟩⟩⟩⟩⟩⟩⟩⟩⟩⟩⟩⟩⟩⟩⟩⟩⟩⟩⟩⟩⟩⟩⟩⟩⟩⟩⟩⟩⟩⟩⟩⟩⟩⟩⟩⟩⟩⟩⟩⟩⟩⟩⟩⟩⟩⟩⟩⟩⟩⟩⟩⟩⟩⟩⟩⟩⟩⟩⟩⟩⟩⟩⟩⟩⟩⟩⟩⟩⟩⟩⟩⟩⟩⟩⟩⟩⟩⟩⟩⟩⟩⟩⟩⟩⟩⟩⟩⟩⟩⟩⟩⟩⟩⟩⟩⟩⟩⟩⟩⟩⟩⟩⟩⟩⟩⟩⟩⟩⟩⟩⟩⟩⟩⟩⟩⟩⟩⟩⟩⟩⟩⟩⟩⟩⟩⟩⟩⟩⟩⟩⟩⟩⟩⟩⟩⟩⟩⟩⟩⟩⟩⟩⟩⟩⟩⟩⟩⟩⟩⟩⟩⟩⟩⟩⟩⟩⟩⟩⟩⟩⟩⟩⟩⟩⟩⟩⟩⟩⟩⟩⟩⟩⟩⟩⟩⟩⟩⟩⟩⟩⟩⟩⟩⟩⟩⟩⟩⟩⟩⟩⟩⟩⟩⟩⟩⟩⟩⟩⟩⟩⟩⟩⟩⟩⟩⟩⟩⟩⟩⟩⟩⟩⟩⟩⟩⟩⟩⟩⟩⟩⟩⟩⟩⟩⟩⟩⟩⟩⟩⟩⟩⟩⟩⟩⟩⟩⟩⟩⟩⟩⟩⟩⟩⟩⟩⟩⟩⟩⟩⟩⟩⟩⟩⟩⟩⟩⟩⟩⟩⟩⟩⟩⟩⟩⟩⟩⟩⟩⟩⟩⟩⟩⟩⟩⟩⟩⟩⟩⟩⟩⟩⟩⟩⟩⟩⟩⟩⟩⟩⟩⟩⟩⟩⟩⟩⟩⟩⟩⟩⟩⟩⟩⟩⟩⟩⟩⟩⟩⟩⟩⟩⟩⟩⟩⟩⟩⟩⟩⟩⟩⟩⟩
theorem wi_1 : ∀ w ∈ Wk1, w ∈ lw_tbl := by
  intro w hw
  obtain ⟨M, hM, rfl⟩ := List.mem_map.mp hw
  exact cw_all M hM
set_option maxRecDepth 100000 in
theorem wi_2 : subL Wk2 lw_tbl = true := by decide +kernel
set_option maxRecDepth 100000 in
theorem wi_3 : subL Wk3 lw_tbl = true := by decide +kernel
set_option maxRecDepth 100000 in
theorem wi_4 : subL Wk4 lw_tbl = true := by decide +kernel
set_option maxRecDepth 100000 in
theorem wi_5 : subL Wk5 lw_tbl = true := by decide +kernel
set_option maxRecDepth 100000 in
theorem wi_6 : subL Wk6 lw_tbl = true := by decide +kernel
set_option maxRecDepth 100000 in
theorem wi_7 : subL Wk7 lw_tbl = true := by decide +kernel
set_option maxRecDepth 100000 in
theorem wi_8 : subL Wk8 lw_tbl = true := by decide +kernel
set_option maxRecDepth 100000 in
theorem wi_9 : subL Wk9 lw_tbl = true := by decide +kernel
set_option maxRecDepth 100000 in
theorem wi_10 : subL Wk10 lw_tbl = true := by decide +kernel
set_option maxRecDepth 100000 in
theorem wi_11 : subL Wk11 lw_tbl = true := by decide +kernel
set_option maxRecDepth 100000 in
theorem wi_12 : subL Wk12 lw_tbl = true := by decide +kernel
set_option maxRecDepth 100000 in
theorem wi_13 : subL Wk13 lw_tbl = true := by decide +kernel
set_option maxRecDepth 100000 in
theorem wi_14 : subL Wk14 lw_tbl = true := by decide +kernel
set_option maxRecDepth 100000 in
theorem wi_15 : ∀ w ∈ Wk15, w ∈ lw_tbl := by decide +kernel
theorem Wds_in : ∀ w ∈ Wds, w ∈ lw_tbl := by
  intro w hw
  unfold Wds at hw
  rcases List.mem_append.mp hw with h | hw
  · exact wi_1 w h
  rcases List.mem_append.mp hw with h | hw
  · exact subL_mem _ _ wi_2 w h
  rcases List.mem_append.mp hw with h | hw
  · exact subL_mem _ _ wi_3 w h
  rcases List.mem_append.mp hw with h | hw
  · exact subL_mem _ _ wi_4 w h
  rcases List.mem_append.mp hw with h | hw
  · exact subL_mem _ _ wi_5 w h
  rcases List.mem_append.mp hw with h | hw
  · exact subL_mem _ _ wi_6 w h
  rcases List.mem_append.mp hw with h | hw
  · exact subL_mem _ _ wi_7 w h
  rcases List.mem_append.mp hw with h | hw
  · exact subL_mem _ _ wi_8 w h
  rcases List.mem_append.mp hw with h | hw
  · exact subL_mem _ _ wi_9 w h
  rcases List.mem_append.mp hw with h | hw
  · exact subL_mem _ _ wi_10 w h
  rcases List.mem_append.mp hw with h | hw
  · exact subL_mem _ _ wi_11 w h
  rcases List.mem_append.mp hw with h | hw
  · exact subL_mem _ _ wi_12 w h
  rcases List.mem_append.mp hw with h | hw
  · exact subL_mem _ _ wi_13 w h
  rcases List.mem_append.mp hw with h | hw
  · exact subL_mem _ _ wi_14 w h
  exact wi_15 w hw
def okw : Cond → Bool
  | .fieldLinkNest .. => true
  | .methodLinkNest .. => true
  | .castable .. => true
  | w => goodWord w
set_option maxRecDepth 100000 in
theorem Wds_ok1 : Wds.all okw = true := by decide +kernel
theorem Wds_ok : ∀ w ∈ Wds, okw w = true := List.all_eq_true.mp Wds_ok1
theorem Wds_pay {args : Array Value} {s : State} (hts : ∀ w ∈ Wds, w.before args s = true) : ∀ w ∈ Wds, ∀ (a' : Array Value) (U : State), s.WarmedH U.vm → w.before a' U = true := by
  intro w hw a' U hW
  have h1 := Wds_ok w hw
  have h2 := hts w hw
  cases w with
  | fieldLinkNest a i b n d h => exact (va_Nw.warmF hW (va_Nw.of rfl h2)).use rfl
  | methodLinkNest a i x h => exact (va_Nw.warmM hW (va_Nw.of rfl h2)).use rfl
  | castable a b => exact (va_Nw.warmC hW (va_Nw.of rfl h2)).use rfl
  | _ => exact word_at hW (good_of_word h1) h2
