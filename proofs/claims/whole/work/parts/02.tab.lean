/-! TABLES of the abstract machine, written by program out of the Statement -/
def am_host : String := "EthernetGates"
def am_R0 : String := "EthernetGates"
def am_F0 : u_T := fun k => match k with
  | 0 => ("EthernetGates", "ports", "[LEthernetGates$Port;", true)
  | 1 => ("EthernetGates", "addresses", "[LEthernetGates$Address;", true)
  | 2 => ("EthernetGates", "departures", "Ljava/util/ArrayList;", true)
  | 3 => ("EthernetGates", "drops", "[I", true)
  | 4 => ("EthernetGates", "offerers", "[I", true)
  | 5 => ("EthernetGates", "offeredUntil", "[J", true)
  | 6 => ("EthernetGates", "now", "J", false)
  | 7 => ("EthernetGates", "cycleLength", "J", false)
  | 8 => ("EthernetGates", "lastWindowEnd", "J", false)
  | 9 => ("EthernetGates", "frames", "I", false)
  | _ => ("EthernetGates", "departed", "I", false)
def am_R1 : String := "EthernetGates$Port"
def am_F1 : u_T := fun k => match k with
  | 0 => ("EthernetGates$Port", "number", "I", true)
  | 1 => ("EthernetGates$Port", "ranks", "[LEthernetGates$PortRank;", true)
  | 2 => ("EthernetGates$Port", "speed", "J", false)
  | 3 => ("EthernetGates$Port", "offset", "J", false)
  | 4 => ("EthernetGates$Port", "waiting", "I", false)
  | 5 => ("EthernetGates$Port", "sentFrame", "I", false)
  | 6 => ("EthernetGates$Port", "sentRank", "I", false)
  | 7 => ("EthernetGates$Port", "sendBegin", "J", false)
  | _ => ("EthernetGates$Port", "sendEnd", "J", false)
def am_R2 : String := "EthernetGates$PortRank"
def am_F2 : u_T := fun k => match k with
  | 0 => ("EthernetGates$PortRank", "queuedFrames", "[I", true)
  | 1 => ("EthernetGates$PortRank", "queuedLengths", "[I", true)
  | 2 => ("EthernetGates$PortRank", "first", "I", false)
  | 3 => ("EthernetGates$PortRank", "waiting", "I", false)
  | 4 => ("EthernetGates$PortRank", "windowFrom", "[J", true)
  | 5 => ("EthernetGates$PortRank", "windowTo", "[J", true)
  | 6 => ("EthernetGates$PortRank", "windows", "I", false)
  | 7 => ("EthernetGates$PortRank", "up", "J", false)
  | 8 => ("EthernetGates$PortRank", "down", "J", false)
  | _ => ("EthernetGates$PortRank", "creditParts", "J", false)
def am_R3 : String := "EthernetGates$Address"
def am_F3 : u_T := fun k => match k with
  | 0 => ("EthernetGates$Address", "streams", "[LEthernetGates$Stream;", true)
  | 1 => ("EthernetGates$Address", "port", "I", false)
  | _ => ("EthernetGates$Address", "since", "J", false)
def am_R4 : String := "EthernetGates$Stream"
def am_F4 : u_T := fun k => match k with
  | 0 => ("EthernetGates$Stream", "rate", "J", false)
  | 1 => ("EthernetGates$Stream", "thousand", "J", false)
  | _ => ("EthernetGates$Stream", "taken", "I", false)
def am_R5 : String := "EthernetGates$Departure"
def am_F5 : u_T := fun k => match k with
  | 0 => ("EthernetGates$Departure", "frame", "I", true)
  | 1 => ("EthernetGates$Departure", "port", "I", true)
  | 2 => ("EthernetGates$Departure", "begin", "J", true)
  | _ => ("EthernetGates$Departure", "end", "J", true)
def am_R6 : String := "java/util/ArrayList"
def am_F6 : u_T := fun k => match k with
  | 0 => ("java/util/ArrayList", "elementData", "[Ljava/lang/Object;", false)
  | 1 => ("java/util/ArrayList", "size", "I", false)
  | _ => ("java/util/AbstractList", "modCount", "I", false)
def am_R7 : String := "EthernetGatesModel"
def am_F7 : u_T := fun k => match k with
  | 0 => ("EthernetGatesModel", "code", "I", false)
  | 1 => ("EthernetGatesModel", "ports", "I", true)
  | 2 => ("EthernetGatesModel", "cycle", "J", false)
  | 3 => ("EthernetGatesModel", "now", "J", false)
  | 4 => ("EthernetGatesModel", "speed", "[J", true)
  | 5 => ("EthernetGatesModel", "offset", "[J", true)
  | 6 => ("EthernetGatesModel", "sends", "[I", true)
  | 7 => ("EthernetGatesModel", "sentRank", "[I", true)
  | 8 => ("EthernetGatesModel", "began", "[J", true)
  | 9 => ("EthernetGatesModel", "ends", "[J", true)
  | 10 => ("EthernetGatesModel", "size", "[I", true)
  | 11 => ("EthernetGatesModel", "queue", "[I", true)
  | 12 => ("EthernetGatesModel", "windows", "[I", true)
  | 13 => ("EthernetGatesModel", "from", "[J", true)
  | 14 => ("EthernetGatesModel", "to", "[J", true)
  | 15 => ("EthernetGatesModel", "up", "[J", true)
  | 16 => ("EthernetGatesModel", "down", "[J", true)
  | 17 => ("EthernetGatesModel", "credit", "[J", true)
  | 18 => ("EthernetGatesModel", "frames", "I", false)
  | 19 => ("EthernetGatesModel", "length", "[I", true)
  | 20 => ("EthernetGatesModel", "place", "[I", true)
  | 21 => ("EthernetGatesModel", "since", "[J", true)
  | 22 => ("EthernetGatesModel", "rate", "[J", true)
  | 23 => ("EthernetGatesModel", "thousand", "[J", true)
  | 24 => ("EthernetGatesModel", "taken", "[I", true)
  | 25 => ("EthernetGatesModel", "offered", "[I", true)
  | 26 => ("EthernetGatesModel", "until", "[J", true)
  | 27 => ("EthernetGatesModel", "leftAll", "I", false)
  | 28 => ("EthernetGatesModel", "leftKept", "I", false)
  | 29 => ("EthernetGatesModel", "left", "[I", true)
  | _ => ("EthernetGatesModel", "dropped", "[I", true)
def am_cl : List vw_C := [(am_R0, am_F0, 11), (am_R1, am_F1, 9), (am_R2, am_F2, 10), (am_R3, am_F3, 3), (am_R4, am_F4, 3), (am_R5, am_F5, 4), (am_R6, am_F6, 3), (am_R7, am_F7, 31)]
def am_rn : List String := ["EthernetGates$Port", "EthernetGates$PortRank", "EthernetGates$Address", "EthernetGates$Stream", "java/lang/Object"]
def am_rc : List Nat := [0, 1, 2, 3, 4]
def am_Tf : List Cond := [(Cond.fieldLink "EthernetGates$PortRank" (9 : Nat) "EthernetGates$PortRank" "queuedFrames" "[I"),
  (Cond.fieldLink "EthernetGates$PortRank" (15 : Nat) "EthernetGates$PortRank" "queuedLengths" "[I"),
  (Cond.fieldLink "EthernetGates$PortRank" (29 : Nat) "EthernetGates$PortRank" "first" "I"),
  (Cond.fieldLink "EthernetGates$PortRank" (25 : Nat) "EthernetGates$PortRank" "waiting" "I"),
  (Cond.fieldLink "EthernetGates$PortRank" (18 : Nat) "EthernetGates$PortRank" "windowFrom" "[J"),
  (Cond.fieldLink "EthernetGates$PortRank" (22 : Nat) "EthernetGates$PortRank" "windowTo" "[J"),
  (Cond.fieldLink "EthernetGates$PortRank" (32 : Nat) "EthernetGates$PortRank" "windows" "I"),
  (Cond.fieldLink "EthernetGates$PortRank" (35 : Nat) "EthernetGates$PortRank" "up" "J"),
  (Cond.fieldLink "EthernetGates$PortRank" (39 : Nat) "EthernetGates$PortRank" "down" "J"),
  (Cond.fieldLink "EthernetGates$PortRank" (42 : Nat) "EthernetGates$PortRank" "creditParts" "J"),
  (Cond.fieldLink "EthernetGates$Port" (9 : Nat) "EthernetGates$Port" "number" "I"),
  (Cond.fieldLink "EthernetGates$Port" (17 : Nat) "EthernetGates$Port" "ranks" "[LEthernetGates$PortRank;"),
  (Cond.fieldLink "EthernetGates$Port" (37 : Nat) "EthernetGates$Port" "speed" "J"),
  (Cond.fieldLink "EthernetGates$Port" (41 : Nat) "EthernetGates$Port" "offset" "J"),
  (Cond.fieldLink "EthernetGates$Port" (29 : Nat) "EthernetGates$Port" "waiting" "I"),
  (Cond.fieldLink "EthernetGates$Port" (22 : Nat) "EthernetGates$Port" "sentFrame" "I"),
  (Cond.fieldLink "EthernetGates$Port" (55 : Nat) "EthernetGates$Port" "sentRank" "I"),
  (Cond.fieldLink "EthernetGates$Port" (58 : Nat) "EthernetGates$Port" "sendBegin" "J"),
  (Cond.fieldLink "EthernetGates$Port" (61 : Nat) "EthernetGates$Port" "sendEnd" "J"),
  (Cond.fieldLink "java/util/ArrayList" (39 : Nat) "java/util/ArrayList" "DEFAULTCAPACITY_EMPTY_ELEMENTDATA" "[Ljava/lang/Object;"),
  (Cond.fieldLink "java/util/ArrayList" (9 : Nat) "java/util/ArrayList" "elementData" "[Ljava/lang/Object;"),
  (Cond.fieldLink "java/util/ArrayList" (48 : Nat) "java/util/ArrayList" "size" "I"),
  (Cond.fieldLink "java/util/AbstractList" (7 : Nat) "java/util/AbstractList" "modCount" "I"),
  (Cond.fieldLink "java/util/ArrayList" (63 : Nat) "java/util/ArrayList" "modCount" "I"),
  (Cond.fieldLink "EthernetGates" (11 : Nat) "EthernetGates" "ports" "[LEthernetGates$Port;"),
  (Cond.fieldLink "EthernetGates" (20 : Nat) "EthernetGates" "addresses" "[LEthernetGates$Address;"),
  (Cond.fieldLink "EthernetGates" (27 : Nat) "EthernetGates" "departures" "Ljava/util/ArrayList;"),
  (Cond.fieldLink "EthernetGates" (31 : Nat) "EthernetGates" "drops" "[I"),
  (Cond.fieldLink "EthernetGates" (35 : Nat) "EthernetGates" "offerers" "[I"),
  (Cond.fieldLink "EthernetGates" (38 : Nat) "EthernetGates" "offeredUntil" "[J"),
  (Cond.fieldLink "EthernetGates" (115 : Nat) "EthernetGates" "now" "J"),
  (Cond.fieldLink "EthernetGates" (44 : Nat) "EthernetGates" "cycleLength" "J"),
  (Cond.fieldLink "EthernetGates" (79 : Nat) "EthernetGates" "lastWindowEnd" "J"),
  (Cond.fieldLink "EthernetGates" (104 : Nat) "EthernetGates" "frames" "I"),
  (Cond.fieldLink "EthernetGates" (134 : Nat) "EthernetGates" "departed" "I"),
  (Cond.fieldLink "EthernetGates$Stream" (11 : Nat) "EthernetGates$Stream" "rate" "J"),
  (Cond.fieldLink "EthernetGates$Stream" (17 : Nat) "EthernetGates$Stream" "thousand" "J"),
  (Cond.fieldLink "EthernetGates$Stream" (22 : Nat) "EthernetGates$Stream" "taken" "I"),
  (Cond.fieldLink "EthernetGates$Address" (11 : Nat) "EthernetGates$Address" "streams" "[LEthernetGates$Stream;"),
  (Cond.fieldLink "EthernetGates$Address" (30 : Nat) "EthernetGates$Address" "port" "I"),
  (Cond.fieldLink "EthernetGates$Address" (18 : Nat) "EthernetGates$Address" "since" "J"),
  (Cond.fieldLink "EthernetGates$Departure" (7 : Nat) "EthernetGates$Departure" "frame" "I"),
  (Cond.fieldLink "EthernetGates$Departure" (13 : Nat) "EthernetGates$Departure" "port" "I"),
  (Cond.fieldLink "EthernetGates$Departure" (16 : Nat) "EthernetGates$Departure" "begin" "J"),
  (Cond.fieldLink "EthernetGates$Departure" (20 : Nat) "EthernetGates$Departure" "end" "J"),
  (Cond.fieldLink "java/lang/Throwable" (198 : Nat) "java/lang/Throwable" "backtrace" "Ljava/lang/Object;"),
  (Cond.fieldLink "java/lang/Throwable" (13 : Nat) "java/lang/Throwable" "UNASSIGNED_STACK" "[Ljava/lang/StackTraceElement;"),
  (Cond.fieldLink "java/lang/Throwable" (20 : Nat) "java/lang/Throwable" "SUPPRESSED_SENTINEL" "Ljava/util/List;"),
  (Cond.fieldLink "java/lang/Throwable" (198 : Nat) "java/lang/Throwable" "backtrace" "Ljava/lang/Object;"),
  (Cond.fieldLink "java/lang/Throwable" (31 : Nat) "java/lang/Throwable" "detailMessage" "Ljava/lang/String;"),
  (Cond.fieldLink "java/lang/Throwable" (7 : Nat) "java/lang/Throwable" "cause" "Ljava/lang/Throwable;"),
  (Cond.fieldLink "java/lang/Throwable" (17 : Nat) "java/lang/Throwable" "stackTrace" "[Ljava/lang/StackTraceElement;"),
  (Cond.fieldLink "java/lang/Throwable" (24 : Nat) "java/lang/Throwable" "suppressedExceptions" "Ljava/util/List;"),
  (Cond.fieldLink "EthernetGatesModel" (93 : Nat) "EthernetGatesModel" "code" "I"),
  (Cond.fieldLink "EthernetGatesModel" (89 : Nat) "EthernetGatesModel" "ports" "I"),
  (Cond.fieldLink "EthernetGatesModel" (9 : Nat) "EthernetGatesModel" "cycle" "J"),
  (Cond.fieldLink "EthernetGatesModel" (110 : Nat) "EthernetGatesModel" "now" "J"),
  (Cond.fieldLink "EthernetGatesModel" (15 : Nat) "EthernetGatesModel" "speed" "[J"),
  (Cond.fieldLink "EthernetGatesModel" (19 : Nat) "EthernetGatesModel" "offset" "[J"),
  (Cond.fieldLink "EthernetGatesModel" (22 : Nat) "EthernetGatesModel" "sends" "[I"),
  (Cond.fieldLink "EthernetGatesModel" (26 : Nat) "EthernetGatesModel" "sentRank" "[I"),
  (Cond.fieldLink "EthernetGatesModel" (29 : Nat) "EthernetGatesModel" "began" "[J"),
  (Cond.fieldLink "EthernetGatesModel" (32 : Nat) "EthernetGatesModel" "ends" "[J"),
  (Cond.fieldLink "EthernetGatesModel" (35 : Nat) "EthernetGatesModel" "size" "[I"),
  (Cond.fieldLink "EthernetGatesModel" (38 : Nat) "EthernetGatesModel" "queue" "[I"),
  (Cond.fieldLink "EthernetGatesModel" (41 : Nat) "EthernetGatesModel" "windows" "[I"),
  (Cond.fieldLink "EthernetGatesModel" (44 : Nat) "EthernetGatesModel" "from" "[J"),
  (Cond.fieldLink "EthernetGatesModel" (47 : Nat) "EthernetGatesModel" "to" "[J"),
  (Cond.fieldLink "EthernetGatesModel" (50 : Nat) "EthernetGatesModel" "up" "[J"),
  (Cond.fieldLink "EthernetGatesModel" (53 : Nat) "EthernetGatesModel" "down" "[J"),
  (Cond.fieldLink "EthernetGatesModel" (56 : Nat) "EthernetGatesModel" "credit" "[J"),
  (Cond.fieldLink "EthernetGatesModel" (126 : Nat) "EthernetGatesModel" "frames" "I"),
  (Cond.fieldLink "EthernetGatesModel" (59 : Nat) "EthernetGatesModel" "length" "[I"),
  (Cond.fieldLink "EthernetGatesModel" (62 : Nat) "EthernetGatesModel" "place" "[I"),
  (Cond.fieldLink "EthernetGatesModel" (65 : Nat) "EthernetGatesModel" "since" "[J"),
  (Cond.fieldLink "EthernetGatesModel" (68 : Nat) "EthernetGatesModel" "rate" "[J"),
  (Cond.fieldLink "EthernetGatesModel" (71 : Nat) "EthernetGatesModel" "thousand" "[J"),
  (Cond.fieldLink "EthernetGatesModel" (74 : Nat) "EthernetGatesModel" "taken" "[I"),
  (Cond.fieldLink "EthernetGatesModel" (77 : Nat) "EthernetGatesModel" "offered" "[I"),
  (Cond.fieldLink "EthernetGatesModel" (80 : Nat) "EthernetGatesModel" "until" "[J"),
  (Cond.fieldLink "EthernetGatesModel" (148 : Nat) "EthernetGatesModel" "leftAll" "I"),
  (Cond.fieldLink "EthernetGatesModel" (145 : Nat) "EthernetGatesModel" "leftKept" "I"),
  (Cond.fieldLink "EthernetGatesModel" (83 : Nat) "EthernetGatesModel" "left" "[I"),
  (Cond.fieldLink "EthernetGatesModel" (86 : Nat) "EthernetGatesModel" "dropped" "[I")]
def am_Tm : List Cond := [(Cond.methodLink "EthernetGatesLaw" (21 : Nat) ({ cls := "EthernetGates", name := "<init>", desc := "(I)V" } : Jvm.MethodName)),
  (Cond.methodLink "EthernetGates" (1 : Nat) ({ cls := "java/lang/Object", name := "<init>", desc := "()V" } : Jvm.MethodName)),
  (Cond.methodLink "EthernetGates$Port" (3 : Nat) ({ cls := "java/lang/Object", name := "<init>", desc := "()V" } : Jvm.MethodName)),
  (Cond.methodLink "EthernetGates$PortRank" (3 : Nat) ({ cls := "java/lang/Object", name := "<init>", desc := "()V" } : Jvm.MethodName)),
  (Cond.methodLink "EthernetGates" (26 : Nat) ({ cls := "java/util/ArrayList", name := "<init>", desc := "()V" } : Jvm.MethodName)),
  (Cond.methodLink "java/util/ArrayList" (1 : Nat) ({ cls := "java/util/AbstractList", name := "<init>", desc := "()V" } : Jvm.MethodName)),
  (Cond.methodLink "java/util/AbstractList" (1 : Nat) ({ cls := "java/util/AbstractCollection", name := "<init>", desc := "()V" } : Jvm.MethodName)),
  (Cond.methodLink "java/util/AbstractCollection" (1 : Nat) ({ cls := "java/lang/Object", name := "<init>", desc := "()V" } : Jvm.MethodName)),
  (Cond.methodLink "EthernetGatesLaw" (29 : Nat) ({ cls := "EthernetGates", name := "link", desc := "(IJ)I" } : Jvm.MethodName)),
  (Cond.methodLink "EthernetGates" (48 : Nat) ({ cls := "EthernetGates", name := "findPort", desc := "(I)LEthernetGates$Port;" } : Jvm.MethodName)),
  (Cond.methodLink "EthernetGates$Port" (32 : Nat) ({ cls := "EthernetGates$Port", name := "isSending", desc := "()Z" } : Jvm.MethodName)),
  (Cond.methodLink "EthernetGatesLaw" (34 : Nat) ({ cls := "EthernetGates", name := "gate", desc := "(IIJJ)I" } : Jvm.MethodName)),
  (Cond.methodLink "EthernetGates" (65 : Nat) ({ cls := "EthernetGates", name := "isRank", desc := "(I)Z" } : Jvm.MethodName)),
  (Cond.methodLink "EthernetGates" (82 : Nat) ({ cls := "java/lang/Math", name := "max", desc := "(JJ)J" } : Jvm.MethodName)),
  (Cond.methodLink "EthernetGatesLaw" (47 : Nat) ({ cls := "EthernetGates", name := "frame", desc := "(IIII)I" } : Jvm.MethodName)),
  (Cond.methodLink "EthernetGates" (101 : Nat) ({ cls := "EthernetGates", name := "isAddress", desc := "(I)Z" } : Jvm.MethodName)),
  (Cond.methodLink "EthernetGates" (107 : Nat) ({ cls := "EthernetGates", name := "addressOf", desc := "(I)LEthernetGates$Address;" } : Jvm.MethodName)),
  (Cond.methodLink "EthernetGates$Address" (3 : Nat) ({ cls := "java/lang/Object", name := "<init>", desc := "()V" } : Jvm.MethodName)),
  (Cond.methodLink "EthernetGates$Stream" (3 : Nat) ({ cls := "java/lang/Object", name := "<init>", desc := "()V" } : Jvm.MethodName)),
  (Cond.methodLink "EthernetGates$Stream" (26 : Nat) ({ cls := "EthernetGates$Stream", name := "takenAt", desc := "(J)I" } : Jvm.MethodName)),
  (Cond.methodLink "EthernetGates$Address" (24 : Nat) ({ cls := "EthernetGates$Address", name := "isFixed", desc := "()Z" } : Jvm.MethodName)),
  (Cond.methodLink "EthernetGates" (128 : Nat) ({ cls := "EthernetGates", name := "queueCopies", desc := "(LEthernetGates$Port;III)I" } : Jvm.MethodName)),
  (Cond.methodLink "EthernetGatesLaw" (52 : Nat) ({ cls := "EthernetGates", name := "run", desc := "(J)I" } : Jvm.MethodName)),
  (Cond.methodLink "EthernetGates" (137 : Nat) ({ cls := "EthernetGates", name := "endSendings", desc := "()V" } : Jvm.MethodName)),
  (Cond.methodLink "EthernetGates" (154 : Nat) ({ cls := "java/util/ArrayList", name := "size", desc := "()I" } : Jvm.MethodName)),
  (Cond.methodLink "EthernetGates$Departure" (1 : Nat) ({ cls := "java/lang/Object", name := "<init>", desc := "()V" } : Jvm.MethodName)),
  (Cond.methodLink "EthernetGates" (228 : Nat) ({ cls := "java/util/ArrayList", name := "add", desc := "(Ljava/lang/Object;)Z" } : Jvm.MethodName)),
  (Cond.methodLink "java/util/ArrayList" (131 : Nat) ({ cls := "java/util/ArrayList", name := "add", desc := "(Ljava/lang/Object;[Ljava/lang/Object;I)V" } : Jvm.MethodName)),
  (Cond.methodLink "java/util/ArrayList" (129 : Nat) ({ cls := "java/util/ArrayList", name := "grow", desc := "()[Ljava/lang/Object;" } : Jvm.MethodName)),
  (Cond.methodLink "java/util/ArrayList" (69 : Nat) ({ cls := "java/util/ArrayList", name := "grow", desc := "(I)[Ljava/lang/Object;" } : Jvm.MethodName)),
  (Cond.methodLink "java/util/ArrayList" (73 : Nat) ({ cls := "jdk/internal/util/ArraysSupport", name := "newLength", desc := "(III)I" } : Jvm.MethodName)),
  (Cond.methodLink "jdk/internal/util/ArraysSupport" (194 : Nat) ({ cls := "java/lang/Math", name := "max", desc := "(II)I" } : Jvm.MethodName)),
  (Cond.methodLink "jdk/internal/util/ArraysSupport" (201 : Nat) ({ cls := "jdk/internal/util/ArraysSupport", name := "hugeLength", desc := "(II)I" } : Jvm.MethodName)),
  (Cond.methodLink "java/util/ArrayList" (66 : Nat) ({ cls := "java/util/Arrays", name := "copyOf", desc := "([Ljava/lang/Object;I)[Ljava/lang/Object;" } : Jvm.MethodName)),
  (Cond.methodLink "java/util/Arrays" (86 : Nat) ({ cls := "java/lang/Object", name := "getClass", desc := "()Ljava/lang/Class;" } : Jvm.MethodName)),
  (Cond.methodLink "java/util/Arrays" (300 : Nat) ({ cls := "java/util/Arrays", name := "copyOf", desc := "([Ljava/lang/Object;ILjava/lang/Class;)[Ljava/lang/Object;" } : Jvm.MethodName)),
  (Cond.methodLink "java/util/Arrays" (304 : Nat) ({ cls := "java/lang/Math", name := "min", desc := "(II)I" } : Jvm.MethodName)),
  (Cond.methodLink "java/util/Arrays" (150 : Nat) ({ cls := "java/lang/System", name := "arraycopy", desc := "(Ljava/lang/Object;ILjava/lang/Object;II)V" } : Jvm.MethodName)),
  (Cond.methodLink "java/util/ArrayList" (79 : Nat) ({ cls := "java/lang/Math", name := "max", desc := "(II)I" } : Jvm.MethodName)),
  (Cond.methodLink "EthernetGates" (140 : Nat) ({ cls := "EthernetGates", name := "beginSendings", desc := "()V" } : Jvm.MethodName)),
  (Cond.methodLink "EthernetGates$PortRank" (45 : Nat) ({ cls := "EthernetGates$PortRank", name := "isShaped", desc := "()Z" } : Jvm.MethodName)),
  (Cond.methodLink "EthernetGates$PortRank" (49 : Nat) ({ cls := "EthernetGates$PortRank", name := "isOpenFor", desc := "(JJ)Z" } : Jvm.MethodName)),
  (Cond.methodLink "EthernetGates" (143 : Nat) ({ cls := "EthernetGates", name := "ticksUntilChange", desc := "()J" } : Jvm.MethodName)),
  (Cond.methodLink "EthernetGates" (147 : Nat) ({ cls := "java/lang/Math", name := "min", desc := "(JJ)J" } : Jvm.MethodName)),
  (Cond.methodLink "EthernetGates" (150 : Nat) ({ cls := "EthernetGates", name := "moveCredits", desc := "(J)V" } : Jvm.MethodName)),
  (Cond.methodLink "EthernetGates$PortRank" (53 : Nat) ({ cls := "java/lang/Math", name := "min", desc := "(JJ)J" } : Jvm.MethodName)),
  (Cond.methodLink "EthernetGatesLaw" (56 : Nat) ({ cls := "EthernetGates", name := "left", desc := "(II)I" } : Jvm.MethodName)),
  (Cond.methodLink "EthernetGates" (157 : Nat) ({ cls := "java/util/ArrayList", name := "get", desc := "(I)Ljava/lang/Object;" } : Jvm.MethodName)),
  (Cond.methodLink "java/util/ArrayList" (118 : Nat) ({ cls := "java/util/Objects", name := "checkIndex", desc := "(II)I" } : Jvm.MethodName)),
  (Cond.methodLink "java/util/Objects" (105 : Nat) ({ cls := "jdk/internal/util/Preconditions", name := "checkIndex", desc := "(IILjava/util/function/BiFunction;)I" } : Jvm.MethodName)),
  (Cond.methodLink "java/util/ArrayList" (123 : Nat) ({ cls := "java/util/ArrayList", name := "elementData", desc := "(I)Ljava/lang/Object;" } : Jvm.MethodName)),
  (Cond.methodLink "EthernetGatesLaw" (61 : Nat) ({ cls := "EthernetGates", name := "learn", desc := "(IIJ)I" } : Jvm.MethodName)),
  (Cond.methodLink "EthernetGatesLaw" (66 : Nat) ({ cls := "EthernetGates", name := "credit", desc := "(IIJJ)I" } : Jvm.MethodName)),
  (Cond.methodLink "EthernetGatesLaw" (70 : Nat) ({ cls := "EthernetGates", name := "filter", desc := "(IJ)I" } : Jvm.MethodName)),
  (Cond.methodLink "EthernetGatesLaw" (74 : Nat) ({ cls := "EthernetGates", name := "clock", desc := "(IJ)I" } : Jvm.MethodName)),
  (Cond.methodLink "EthernetGatesLaw" (78 : Nat) ({ cls := "EthernetGates", name := "dropped", desc := "(I)I" } : Jvm.MethodName)),
  (Cond.methodLink "EthernetGatesLaw" (83 : Nat) ({ cls := "EthernetGates", name := "service", desc := "(II)I" } : Jvm.MethodName)),
  (Cond.methodLink "EthernetGates" (201 : Nat) ({ cls := "EthernetGates", name := "offererOf", desc := "(I)I" } : Jvm.MethodName)),
  (Cond.methodLink "EthernetGates" (205 : Nat) ({ cls := "EthernetGates", name := "isService", desc := "(I)Z" } : Jvm.MethodName)),
  (Cond.methodLink "EthernetGatesLaw" (15 : Nat) ({ cls := "EthernetGatesLaw", name := "cell", desc := "([II)I" } : Jvm.MethodName)),
  (Cond.methodLink "EthernetGatesLaw" (39 : Nat) ({ cls := "EthernetGatesLaw", name := "cycle", desc := "(LEthernetGates;J[J)I" } : Jvm.MethodName)),
  (Cond.methodLink "EthernetGatesLaw" (7 : Nat) ({ cls := "EthernetGates", name := "cycle", desc := "(J)I" } : Jvm.MethodName)),
  (Cond.methodLink "java/lang/Throwable" (1 : Nat) ({ cls := "java/lang/Object", name := "<init>", desc := "()V" } : Jvm.MethodName)),
  (Cond.methodLink "java/lang/Throwable" (27 : Nat) ({ cls := "java/lang/Throwable", name := "fillInStackTrace", desc := "()Ljava/lang/Throwable;" } : Jvm.MethodName)),
  (Cond.methodLink "java/lang/Throwable" (202 : Nat) ({ cls := "java/lang/Throwable", name := "fillInStackTrace", desc := "(I)Ljava/lang/Throwable;" } : Jvm.MethodName)),
  (Cond.methodLink "EthernetGates" (98 : Nat) ({ cls := "java/lang/ArithmeticException", name := "<init>", desc := "(Ljava/lang/String;)V" } : Jvm.MethodName)),
  (Cond.methodLink "java/lang/ArithmeticException" (7 : Nat) ({ cls := "java/lang/RuntimeException", name := "<init>", desc := "(Ljava/lang/String;)V" } : Jvm.MethodName)),
  (Cond.methodLink "java/lang/RuntimeException" (7 : Nat) ({ cls := "java/lang/Exception", name := "<init>", desc := "(Ljava/lang/String;)V" } : Jvm.MethodName)),
  (Cond.methodLink "java/lang/Exception" (7 : Nat) ({ cls := "java/lang/Throwable", name := "<init>", desc := "(Ljava/lang/String;)V" } : Jvm.MethodName)),
  (Cond.methodLink "EthernetGatesLaw" (26 : Nat) ({ cls := "EthernetGatesModel", name := "<init>", desc := "(I)V" } : Jvm.MethodName)),
  (Cond.methodLink "EthernetGatesModel" (1 : Nat) ({ cls := "java/lang/Object", name := "<init>", desc := "()V" } : Jvm.MethodName)),
  (Cond.methodLink "EthernetGatesLaw" (43 : Nat) ({ cls := "EthernetGatesModel", name := "thrown", desc := "()I" } : Jvm.MethodName)),
  (Cond.methodLink "EthernetGatesLaw" (33 : Nat) ({ cls := "EthernetGatesModel", name := "link", desc := "(IJ)I" } : Jvm.MethodName)),
  (Cond.methodLink "EthernetGatesModel" (96 : Nat) ({ cls := "EthernetGatesModel", name := "none", desc := "(I)Z" } : Jvm.MethodName)),
  (Cond.methodLink "EthernetGatesLaw" (38 : Nat) ({ cls := "EthernetGatesModel", name := "gate", desc := "(IIJJ)I" } : Jvm.MethodName)),
  (Cond.methodLink "EthernetGatesModel" (102 : Nat) ({ cls := "EthernetGatesModel", name := "noRank", desc := "(II)Z" } : Jvm.MethodName)),
  (Cond.methodLink "EthernetGatesLaw" (42 : Nat) ({ cls := "EthernetGatesModel", name := "cycle", desc := "(J)I" } : Jvm.MethodName)),
  (Cond.methodLink "EthernetGatesLaw" (65 : Nat) ({ cls := "EthernetGatesModel", name := "learn", desc := "(IIJ)I" } : Jvm.MethodName)),
  (Cond.methodLink "EthernetGatesModel" (115 : Nat) ({ cls := "EthernetGatesModel", name := "isAt", desc := "(I)Z" } : Jvm.MethodName)),
  (Cond.methodLink "EthernetGatesLaw" (69 : Nat) ({ cls := "EthernetGatesModel", name := "credit", desc := "(IIJJ)I" } : Jvm.MethodName)),
  (Cond.methodLink "EthernetGatesLaw" (73 : Nat) ({ cls := "EthernetGatesModel", name := "filter", desc := "(IJ)I" } : Jvm.MethodName)),
  (Cond.methodLink "EthernetGatesModel" (118 : Nat) ({ cls := "EthernetGatesModel", name := "look", desc := "(I)V" } : Jvm.MethodName)),
  (Cond.methodLink "EthernetGatesLaw" (77 : Nat) ({ cls := "EthernetGatesModel", name := "clock", desc := "(IJ)I" } : Jvm.MethodName)),
  (Cond.methodLink "EthernetGatesLaw" (86 : Nat) ({ cls := "EthernetGatesModel", name := "service", desc := "(II)I" } : Jvm.MethodName)),
  (Cond.methodLink "EthernetGatesLaw" (51 : Nat) ({ cls := "EthernetGatesModel", name := "frame", desc := "(IIII)I" } : Jvm.MethodName)),
  (Cond.methodLink "EthernetGatesModel" (129 : Nat) ({ cls := "EthernetGatesModel", name := "enter", desc := "(III)I" } : Jvm.MethodName)),
  (Cond.methodLink "EthernetGatesLaw" (55 : Nat) ({ cls := "EthernetGatesModel", name := "run", desc := "(J)I" } : Jvm.MethodName)),
  (Cond.methodLink "EthernetGatesModel" (160 : Nat) ({ cls := "EthernetGatesModel", name := "tick", desc := "()V" } : Jvm.MethodName)),
  (Cond.methodLink "EthernetGatesModel" (151 : Nat) ({ cls := "EthernetGatesModel", name := "may", desc := "(II)Z" } : Jvm.MethodName)),
  (Cond.methodLink "EthernetGatesModel" (137 : Nat) ({ cls := "EthernetGatesModel", name := "time", desc := "(II)J" } : Jvm.MethodName)),
  (Cond.methodLink "EthernetGatesModel" (141 : Nat) ({ cls := "EthernetGatesModel", name := "open", desc := "(IJJ)Z" } : Jvm.MethodName)),
  (Cond.methodLink "EthernetGatesModel" (154 : Nat) ({ cls := "EthernetGatesModel", name := "begin", desc := "(II)V" } : Jvm.MethodName)),
  (Cond.methodLink "EthernetGatesLaw" (60 : Nat) ({ cls := "EthernetGatesModel", name := "left", desc := "(II)I" } : Jvm.MethodName)),
  (Cond.methodLink "EthernetGatesLaw" (82 : Nat) ({ cls := "EthernetGatesModel", name := "dropped", desc := "(I)I" } : Jvm.MethodName))]
def am_Tc : List Cond := [(Cond.classLink "EthernetGatesLaw" (8 : Nat) "EthernetGates"),
  (Cond.classLink "EthernetGates" (9 : Nat) "EthernetGates$Port"),
  (Cond.classLink "EthernetGates$Port" (15 : Nat) "EthernetGates$PortRank"),
  (Cond.classLink "EthernetGates" (18 : Nat) "EthernetGates$Address"),
  (Cond.classLink "EthernetGates" (24 : Nat) "java/util/ArrayList"),
  (Cond.constantLong "EthernetGates" (42 : Nat) (1000 : Int64)),
  (Cond.constantLong "EthernetGates" (52 : Nat) (10000 : Int64)),
  (Cond.classLink "EthernetGates$Address" (9 : Nat) "EthernetGates$Stream"),
  (Cond.constantLong "EthernetGates$Stream" (9 : Nat) (-1 : Int64)),
  (Cond.constantLong "EthernetGates$Stream" (20 : Nat) (1000 : Int64)),
  (Cond.constantLong "EthernetGates$Address" (22 : Nat) (-1 : Int64)),
  (Cond.constantLong "EthernetGates$Address" (28 : Nat) (3000 : Int64)),
  (Cond.constantLong "EthernetGates" (132 : Nat) (2000 : Int64)),
  (Cond.classLink "EthernetGates" (161 : Nat) "EthernetGates$Departure"),
  (Cond.constant "jdk/internal/util/ArraysSupport" (200 : Nat) (2147483639 : Int32)),
  (Cond.classLink "java/util/Arrays" (110 : Nat) "[Ljava/lang/Object;"),
  (Cond.classLink "java/util/Arrays" (2 : Nat) "java/lang/Object"),
  (Cond.classLink "java/util/ArrayList" (7 : Nat) "java/lang/Object"),
  (Cond.constantLong "EthernetGates$Port" (64 : Nat) (2000 : Int64)),
  (Cond.constantLong "EthernetGates" (175 : Nat) (-1 : Int64)),
  (Cond.constantLong "EthernetGates" (92 : Nat) (1000000 : Int64)),
  (Cond.constantLong "EthernetGates" (194 : Nat) (-100 : Int64)),
  (Cond.constantLong "EthernetGates" (196 : Nat) (100 : Int64)),
  (Cond.classLink "EthernetGatesLaw" (13 : Nat) "java/lang/ArithmeticException"),
  (Cond.classLink "EthernetGates" (94 : Nat) "java/lang/ArithmeticException"),
  (Cond.classLink "EthernetGatesLaw" (24 : Nat) "EthernetGatesModel"),
  (Cond.constantLong "EthernetGatesModel" (7 : Nat) (1000 : Int64)),
  (Cond.constantLong "EthernetGatesModel" (100 : Nat) (10000 : Int64)),
  (Cond.constantLong "EthernetGatesModel" (106 : Nat) (1000000 : Int64)),
  (Cond.constantLong "EthernetGatesModel" (108 : Nat) (-1 : Int64)),
  (Cond.constantLong "EthernetGatesModel" (113 : Nat) (3000 : Int64)),
  (Cond.constantLong "EthernetGatesModel" (122 : Nat) (5000 : Int64)),
  (Cond.constantLong "EthernetGatesModel" (124 : Nat) (100 : Int64)),
  (Cond.constantLong "EthernetGatesModel" (158 : Nat) (2000 : Int64)),
  (Cond.constantLong "EthernetGatesModel" (133 : Nat) (8 : Int64)),
  (Cond.constantLong "EthernetGatesModel" (135 : Nat) (160 : Int64)),
  (Cond.constantLong "EthernetGatesLaw" (27 : Nat) (4294967295 : Int64))]
def am_Ti : List Cond := [(Cond.initialized "EthernetGatesLaw"),
  (Cond.initialized "EthernetGates"),
  (Cond.initialized "EthernetGates$Port"),
  (Cond.initialized "EthernetGates$PortRank"),
  (Cond.initialized "java/util/AbstractCollection"),
  (Cond.initialized "java/util/AbstractList"),
  (Cond.initialized "java/util/ArrayList"),
  (Cond.initialized "EthernetGatesModel"),
  (Cond.initialized "java/lang/Math"),
  (Cond.initialized "java/lang/Throwable"),
  (Cond.initialized "java/lang/Exception"),
  (Cond.initialized "java/lang/RuntimeException"),
  (Cond.initialized "java/lang/ArithmeticException"),
  (Cond.initialized "EthernetGates$Address"),
  (Cond.initialized "EthernetGates$Stream"),
  (Cond.initialized "EthernetGates$Departure"),
  (Cond.initialized "jdk/internal/util/ArraysSupport"),
  (Cond.initialized "java/util/Arrays"),
  (Cond.initialized "java/lang/System"),
  (Cond.initialized "java/util/Objects"),
  (Cond.initialized "jdk/internal/util/Preconditions"),
  (Cond.instantiable "EthernetGates" (11 : Nat)),
  (Cond.instantiable "EthernetGates$Port" (9 : Nat)),
  (Cond.instantiable "EthernetGates$PortRank" (10 : Nat)),
  (Cond.arrayClass Jvm.ClassFile.FieldType.int),
  (Cond.arrayClass Jvm.ClassFile.FieldType.long),
  (Cond.instantiable "java/util/ArrayList" (3 : Nat)),
  (Cond.sameField "java/util/ArrayList" "java/util/AbstractList" "modCount" "I"),
  (Cond.instantiable "EthernetGates$Address" (3 : Nat)),
  (Cond.instantiable "EthernetGates$Stream" (3 : Nat)),
  (Cond.instantiable "EthernetGates$Departure" (4 : Nat)),
  (Cond.instantiable "java/lang/ArithmeticException" (6 : Nat)),
  (Cond.instantiable "java/lang/Throwable" (6 : Nat)),
  (Cond.arrayClass Jvm.ClassFile.FieldType.byte),
  (Cond.instantiable "EthernetGatesModel" (31 : Nat))]
def am_Tn : List Cond := [(Cond.methodLinkNest "EthernetGates" (15 : Nat) ({ cls := "EthernetGates$Port", name := "<init>", desc := "(I)V" } : Jvm.MethodName) "EthernetGates"),
  (Cond.methodLinkNest "EthernetGates$Port" (21 : Nat) ({ cls := "EthernetGates$PortRank", name := "<init>", desc := "()V" } : Jvm.MethodName) "EthernetGates"),
  (Cond.fieldLinkNest "EthernetGates$Port" (36 : Nat) "EthernetGates$PortRank" "waiting" "I" "EthernetGates"),
  (Cond.fieldLinkNest "EthernetGates" (88 : Nat) "EthernetGates$PortRank" "windows" "I" "EthernetGates"),
  (Cond.fieldLinkNest "EthernetGates" (209 : Nat) "EthernetGates$Port" "number" "I" "EthernetGates"),
  (Cond.fieldLinkNest "EthernetGates" (69 : Nat) "EthernetGates$Port" "ranks" "[LEthernetGates$PortRank;" "EthernetGates"),
  (Cond.fieldLinkNest "EthernetGates" (54 : Nat) "EthernetGates$Port" "speed" "J" "EthernetGates"),
  (Cond.fieldLinkNest "EthernetGates" (198 : Nat) "EthernetGates$Port" "offset" "J" "EthernetGates"),
  (Cond.fieldLinkNest "EthernetGates" (219 : Nat) "EthernetGates$Port" "sentFrame" "I" "EthernetGates"),
  (Cond.fieldLinkNest "EthernetGates" (222 : Nat) "EthernetGates$Port" "sendBegin" "J" "EthernetGates"),
  (Cond.fieldLinkNest "EthernetGates" (216 : Nat) "EthernetGates$Port" "sendEnd" "J" "EthernetGates"),
  (Cond.methodLinkNest "EthernetGates" (57 : Nat) ({ cls := "EthernetGates$Port", name := "isSending", desc := "()Z" } : Jvm.MethodName) "EthernetGates"),
  (Cond.methodLinkNest "EthernetGates" (61 : Nat) ({ cls := "EthernetGates$Port", name := "loseFrames", desc := "()I" } : Jvm.MethodName) "EthernetGates"),
  (Cond.methodLinkNest "EthernetGates" (73 : Nat) ({ cls := "EthernetGates$PortRank", name := "addWindow", desc := "(JJ)Z" } : Jvm.MethodName) "EthernetGates"),
  (Cond.methodLinkNest "EthernetGates" (208 : Nat) ({ cls := "EthernetGates$Address", name := "<init>", desc := "()V" } : Jvm.MethodName) "EthernetGates"),
  (Cond.methodLinkNest "EthernetGates$Address" (17 : Nat) ({ cls := "EthernetGates$Stream", name := "<init>", desc := "()V" } : Jvm.MethodName) "EthernetGates"),
  (Cond.fieldLinkNest "EthernetGates" (188 : Nat) "EthernetGates$Stream" "rate" "J" "EthernetGates"),
  (Cond.fieldLinkNest "EthernetGates" (111 : Nat) "EthernetGates$Address" "streams" "[LEthernetGates$Stream;" "EthernetGates"),
  (Cond.fieldLinkNest "EthernetGates" (180 : Nat) "EthernetGates$Address" "port" "I" "EthernetGates"),
  (Cond.fieldLinkNest "EthernetGates" (181 : Nat) "EthernetGates$Address" "since" "J" "EthernetGates"),
  (Cond.methodLinkNest "EthernetGates" (118 : Nat) ({ cls := "EthernetGates$Stream", name := "takesOne", desc := "(J)Z" } : Jvm.MethodName) "EthernetGates"),
  (Cond.methodLinkNest "EthernetGates" (124 : Nat) ({ cls := "EthernetGates$Address", name := "portAt", desc := "(J)I" } : Jvm.MethodName) "EthernetGates"),
  (Cond.methodLinkNest "EthernetGates" (212 : Nat) ({ cls := "EthernetGates$Port", name := "queue", desc := "(III)Z" } : Jvm.MethodName) "EthernetGates"),
  (Cond.methodLinkNest "EthernetGates$Port" (25 : Nat) ({ cls := "EthernetGates$PortRank", name := "add", desc := "(II)Z" } : Jvm.MethodName) "EthernetGates"),
  (Cond.methodLinkNest "EthernetGates" (225 : Nat) ({ cls := "EthernetGates$Departure", name := "<init>", desc := "(IIJJ)V" } : Jvm.MethodName) "EthernetGates"),
  (Cond.fieldLinkNest "EthernetGates" (163 : Nat) "EthernetGates$Departure" "frame" "I" "EthernetGates"),
  (Cond.fieldLinkNest "EthernetGates" (166 : Nat) "EthernetGates$Departure" "port" "I" "EthernetGates"),
  (Cond.fieldLinkNest "EthernetGates" (169 : Nat) "EthernetGates$Departure" "begin" "J" "EthernetGates"),
  (Cond.fieldLinkNest "EthernetGates" (172 : Nat) "EthernetGates$Departure" "end" "J" "EthernetGates"),
  (Cond.methodLinkNest "EthernetGates" (232 : Nat) ({ cls := "EthernetGates$Port", name := "beginNext", desc := "(JJ)V" } : Jvm.MethodName) "EthernetGates"),
  (Cond.methodLinkNest "EthernetGates$Port" (44 : Nat) ({ cls := "EthernetGates$PortRank", name := "firstBits", desc := "()I" } : Jvm.MethodName) "EthernetGates"),
  (Cond.methodLinkNest "EthernetGates$Port" (48 : Nat) ({ cls := "EthernetGates$PortRank", name := "letsBegin", desc := "(JJ)Z" } : Jvm.MethodName) "EthernetGates"),
  (Cond.methodLinkNest "EthernetGates$Port" (52 : Nat) ({ cls := "EthernetGates$PortRank", name := "removeFirst", desc := "()I" } : Jvm.MethodName) "EthernetGates"),
  (Cond.methodLinkNest "EthernetGates" (235 : Nat) ({ cls := "EthernetGates$Port", name := "ticksUntilChange", desc := "(J)J" } : Jvm.MethodName) "EthernetGates"),
  (Cond.methodLinkNest "EthernetGates" (238 : Nat) ({ cls := "EthernetGates$Port", name := "moveCredits", desc := "(J)V" } : Jvm.MethodName) "EthernetGates"),
  (Cond.methodLinkNest "EthernetGates$Port" (66 : Nat) ({ cls := "EthernetGates$PortRank", name := "isShaped", desc := "()Z" } : Jvm.MethodName) "EthernetGates"),
  (Cond.methodLinkNest "EthernetGates$Port" (69 : Nat) ({ cls := "EthernetGates$PortRank", name := "moveCredit", desc := "(JJ)V" } : Jvm.MethodName) "EthernetGates"),
  (Cond.methodLinkNest "EthernetGates" (177 : Nat) ({ cls := "EthernetGates$Address", name := "isFixed", desc := "()Z" } : Jvm.MethodName) "EthernetGates"),
  (Cond.methodLinkNest "EthernetGates" (184 : Nat) ({ cls := "EthernetGates$PortRank", name := "shape", desc := "(JJ)V" } : Jvm.MethodName) "EthernetGates"),
  (Cond.methodLinkNest "EthernetGates" (191 : Nat) ({ cls := "EthernetGates$Stream", name := "takenAt", desc := "(J)I" } : Jvm.MethodName) "EthernetGates"),
  (Cond.castable "java/lang/ArithmeticException" "java/lang/ArithmeticException"),
  (Cond.castable "EthernetGates$Departure" "EthernetGates$Departure"),
  (Cond.castable "EthernetGates" "java/lang/Object"),
  (Cond.castable "EthernetGates$Port" "java/lang/Object"),
  (Cond.castable "EthernetGates$PortRank" "java/lang/Object"),
  (Cond.castable "EthernetGatesModel" "java/lang/Object"),
  (Cond.castable "EthernetGates$Address" "java/lang/Object"),
  (Cond.castable "EthernetGates$Stream" "java/lang/Object"),
  (Cond.castable "EthernetGates$Departure" "java/lang/Object"),
  (Cond.castable "java/lang/String" "java/lang/Object")]
def am_Tx : List Cond := [(Cond.laysFinal "EthernetGates$PortRank" "EthernetGates$PortRank" "queuedFrames" "[I"),
  (Cond.laysFinal "EthernetGates$PortRank" "EthernetGates$PortRank" "queuedLengths" "[I"),
  (Cond.lays "EthernetGates$PortRank" "EthernetGates$PortRank" "first" "I"),
  (Cond.lays "EthernetGates$PortRank" "EthernetGates$PortRank" "waiting" "I"),
  (Cond.laysFinal "EthernetGates$PortRank" "EthernetGates$PortRank" "windowFrom" "[J"),
  (Cond.laysFinal "EthernetGates$PortRank" "EthernetGates$PortRank" "windowTo" "[J"),
  (Cond.lays "EthernetGates$PortRank" "EthernetGates$PortRank" "windows" "I"),
  (Cond.lays "EthernetGates$PortRank" "EthernetGates$PortRank" "up" "J"),
  (Cond.lays "EthernetGates$PortRank" "EthernetGates$PortRank" "down" "J"),
  (Cond.lays "EthernetGates$PortRank" "EthernetGates$PortRank" "creditParts" "J"),
  (Cond.laysFinal "EthernetGates$Port" "EthernetGates$Port" "number" "I"),
  (Cond.laysFinal "EthernetGates$Port" "EthernetGates$Port" "ranks" "[LEthernetGates$PortRank;"),
  (Cond.lays "EthernetGates$Port" "EthernetGates$Port" "speed" "J"),
  (Cond.lays "EthernetGates$Port" "EthernetGates$Port" "offset" "J"),
  (Cond.lays "EthernetGates$Port" "EthernetGates$Port" "waiting" "I"),
  (Cond.lays "EthernetGates$Port" "EthernetGates$Port" "sentFrame" "I"),
  (Cond.lays "EthernetGates$Port" "EthernetGates$Port" "sentRank" "I"),
  (Cond.lays "EthernetGates$Port" "EthernetGates$Port" "sendBegin" "J"),
  (Cond.lays "EthernetGates$Port" "EthernetGates$Port" "sendEnd" "J"),
  (Cond.lays "java/util/ArrayList" "java/util/ArrayList" "elementData" "[Ljava/lang/Object;"),
  (Cond.lays "java/util/ArrayList" "java/util/ArrayList" "size" "I"),
  (Cond.lays "java/util/ArrayList" "java/util/AbstractList" "modCount" "I"),
  (Cond.laysFinal "EthernetGates" "EthernetGates" "ports" "[LEthernetGates$Port;"),
  (Cond.laysFinal "EthernetGates" "EthernetGates" "addresses" "[LEthernetGates$Address;"),
  (Cond.laysFinal "EthernetGates" "EthernetGates" "departures" "Ljava/util/ArrayList;"),
  (Cond.laysFinal "EthernetGates" "EthernetGates" "drops" "[I"),
  (Cond.laysFinal "EthernetGates" "EthernetGates" "offerers" "[I"),
  (Cond.laysFinal "EthernetGates" "EthernetGates" "offeredUntil" "[J"),
  (Cond.lays "EthernetGates" "EthernetGates" "now" "J"),
  (Cond.lays "EthernetGates" "EthernetGates" "cycleLength" "J"),
  (Cond.lays "EthernetGates" "EthernetGates" "lastWindowEnd" "J"),
  (Cond.lays "EthernetGates" "EthernetGates" "frames" "I"),
  (Cond.lays "EthernetGates" "EthernetGates" "departed" "I"),
  (Cond.lays "EthernetGates$Stream" "EthernetGates$Stream" "rate" "J"),
  (Cond.lays "EthernetGates$Stream" "EthernetGates$Stream" "thousand" "J"),
  (Cond.lays "EthernetGates$Stream" "EthernetGates$Stream" "taken" "I"),
  (Cond.laysFinal "EthernetGates$Address" "EthernetGates$Address" "streams" "[LEthernetGates$Stream;"),
  (Cond.lays "EthernetGates$Address" "EthernetGates$Address" "port" "I"),
  (Cond.lays "EthernetGates$Address" "EthernetGates$Address" "since" "J"),
  (Cond.laysFinal "EthernetGates$Departure" "EthernetGates$Departure" "frame" "I"),
  (Cond.laysFinal "EthernetGates$Departure" "EthernetGates$Departure" "port" "I"),
  (Cond.laysFinal "EthernetGates$Departure" "EthernetGates$Departure" "begin" "J"),
  (Cond.laysFinal "EthernetGates$Departure" "EthernetGates$Departure" "end" "J"),
  (Cond.lays "java/lang/ArithmeticException" "java/lang/Throwable" "cause" "Ljava/lang/Throwable;"),
  (Cond.lays "java/lang/Throwable" "java/lang/Throwable" "cause" "Ljava/lang/Throwable;"),
  (Cond.lays "java/lang/ArithmeticException" "java/lang/Throwable" "stackTrace" "[Ljava/lang/StackTraceElement;"),
  (Cond.lays "java/lang/Throwable" "java/lang/Throwable" "stackTrace" "[Ljava/lang/StackTraceElement;"),
  (Cond.lays "java/lang/ArithmeticException" "java/lang/Throwable" "suppressedExceptions" "Ljava/util/List;"),
  (Cond.lays "java/lang/Throwable" "java/lang/Throwable" "suppressedExceptions" "Ljava/util/List;"),
  (Cond.lays "java/lang/ArithmeticException" "java/lang/Throwable" "detailMessage" "Ljava/lang/String;"),
  (Cond.lays "java/lang/Throwable" "java/lang/Throwable" "detailMessage" "Ljava/lang/String;"),
  (Cond.lays "java/lang/ArithmeticException" "java/lang/Throwable" "backtrace" "Ljava/lang/Object;"),
  (Cond.lays "java/lang/Throwable" "java/lang/Throwable" "backtrace" "Ljava/lang/Object;"),
  (Cond.lays "java/lang/ArithmeticException" "java/lang/Throwable" "depth" "I"),
  (Cond.lays "EthernetGatesModel" "EthernetGatesModel" "code" "I"),
  (Cond.laysFinal "EthernetGatesModel" "EthernetGatesModel" "ports" "I"),
  (Cond.lays "EthernetGatesModel" "EthernetGatesModel" "cycle" "J"),
  (Cond.lays "EthernetGatesModel" "EthernetGatesModel" "now" "J"),
  (Cond.laysFinal "EthernetGatesModel" "EthernetGatesModel" "speed" "[J"),
  (Cond.laysFinal "EthernetGatesModel" "EthernetGatesModel" "offset" "[J"),
  (Cond.laysFinal "EthernetGatesModel" "EthernetGatesModel" "sends" "[I"),
  (Cond.laysFinal "EthernetGatesModel" "EthernetGatesModel" "sentRank" "[I"),
  (Cond.laysFinal "EthernetGatesModel" "EthernetGatesModel" "began" "[J"),
  (Cond.laysFinal "EthernetGatesModel" "EthernetGatesModel" "ends" "[J"),
  (Cond.laysFinal "EthernetGatesModel" "EthernetGatesModel" "size" "[I"),
  (Cond.laysFinal "EthernetGatesModel" "EthernetGatesModel" "queue" "[I"),
  (Cond.laysFinal "EthernetGatesModel" "EthernetGatesModel" "windows" "[I"),
  (Cond.laysFinal "EthernetGatesModel" "EthernetGatesModel" "from" "[J"),
  (Cond.laysFinal "EthernetGatesModel" "EthernetGatesModel" "to" "[J"),
  (Cond.laysFinal "EthernetGatesModel" "EthernetGatesModel" "up" "[J"),
  (Cond.laysFinal "EthernetGatesModel" "EthernetGatesModel" "down" "[J"),
  (Cond.laysFinal "EthernetGatesModel" "EthernetGatesModel" "credit" "[J"),
  (Cond.lays "EthernetGatesModel" "EthernetGatesModel" "frames" "I"),
  (Cond.laysFinal "EthernetGatesModel" "EthernetGatesModel" "length" "[I"),
  (Cond.laysFinal "EthernetGatesModel" "EthernetGatesModel" "place" "[I"),
  (Cond.laysFinal "EthernetGatesModel" "EthernetGatesModel" "since" "[J"),
  (Cond.laysFinal "EthernetGatesModel" "EthernetGatesModel" "rate" "[J"),
  (Cond.laysFinal "EthernetGatesModel" "EthernetGatesModel" "thousand" "[J"),
  (Cond.laysFinal "EthernetGatesModel" "EthernetGatesModel" "taken" "[I"),
  (Cond.laysFinal "EthernetGatesModel" "EthernetGatesModel" "offered" "[I"),
  (Cond.laysFinal "EthernetGatesModel" "EthernetGatesModel" "until" "[J"),
  (Cond.lays "EthernetGatesModel" "EthernetGatesModel" "leftAll" "I"),
  (Cond.lays "EthernetGatesModel" "EthernetGatesModel" "leftKept" "I"),
  (Cond.laysFinal "EthernetGatesModel" "EthernetGatesModel" "left" "[I"),
  (Cond.laysFinal "EthernetGatesModel" "EthernetGatesModel" "dropped" "[I")]
def am_Tk : List Cond := [(Cond.instanceMethod ({ cls := "EthernetGates", name := "<init>", desc := "(I)V" } : Jvm.MethodName)),
  (Cond.instanceMethod ({ cls := "java/lang/Object", name := "<init>", desc := "()V" } : Jvm.MethodName)),
  (Cond.instanceMethod ({ cls := "EthernetGates$Port", name := "<init>", desc := "(I)V" } : Jvm.MethodName)),
  (Cond.instanceMethod ({ cls := "EthernetGates$PortRank", name := "<init>", desc := "()V" } : Jvm.MethodName)),
  (Cond.instanceMethod ({ cls := "java/util/ArrayList", name := "<init>", desc := "()V" } : Jvm.MethodName)),
  (Cond.instanceMethod ({ cls := "java/util/AbstractList", name := "<init>", desc := "()V" } : Jvm.MethodName)),
  (Cond.instanceMethod ({ cls := "java/util/AbstractCollection", name := "<init>", desc := "()V" } : Jvm.MethodName)),
  (Cond.instanceMethod ({ cls := "EthernetGates", name := "link", desc := "(IJ)I" } : Jvm.MethodName)),
  (Cond.selects "EthernetGates" ({ cls := "EthernetGates", name := "link", desc := "(IJ)I" } : Jvm.MethodName) ({ cls := "EthernetGates", name := "link", desc := "(IJ)I" } : Jvm.MethodName)),
  (Cond.instanceMethod ({ cls := "EthernetGates", name := "findPort", desc := "(I)LEthernetGates$Port;" } : Jvm.MethodName)),
  (Cond.instanceMethod ({ cls := "EthernetGates$Port", name := "isSending", desc := "()Z" } : Jvm.MethodName)),
  (Cond.instanceMethod ({ cls := "EthernetGates$Port", name := "loseFrames", desc := "()I" } : Jvm.MethodName)),
  (Cond.instanceMethod ({ cls := "EthernetGates", name := "gate", desc := "(IIJJ)I" } : Jvm.MethodName)),
  (Cond.selects "EthernetGates" ({ cls := "EthernetGates", name := "gate", desc := "(IIJJ)I" } : Jvm.MethodName) ({ cls := "EthernetGates", name := "gate", desc := "(IIJJ)I" } : Jvm.MethodName)),
  (Cond.static ({ cls := "EthernetGates", name := "isRank", desc := "(I)Z" } : Jvm.MethodName)),
  (Cond.instanceMethod ({ cls := "EthernetGates$PortRank", name := "addWindow", desc := "(JJ)Z" } : Jvm.MethodName)),
  (Cond.static ({ cls := "java/lang/Math", name := "max", desc := "(JJ)J" } : Jvm.MethodName)),
  (Cond.instanceMethod ({ cls := "EthernetGates", name := "frame", desc := "(IIII)I" } : Jvm.MethodName)),
  (Cond.selects "EthernetGates" ({ cls := "EthernetGates", name := "frame", desc := "(IIII)I" } : Jvm.MethodName) ({ cls := "EthernetGates", name := "frame", desc := "(IIII)I" } : Jvm.MethodName)),
  (Cond.static ({ cls := "EthernetGates", name := "isAddress", desc := "(I)Z" } : Jvm.MethodName)),
  (Cond.instanceMethod ({ cls := "EthernetGates", name := "addressOf", desc := "(I)LEthernetGates$Address;" } : Jvm.MethodName)),
  (Cond.instanceMethod ({ cls := "EthernetGates$Address", name := "<init>", desc := "()V" } : Jvm.MethodName)),
  (Cond.instanceMethod ({ cls := "EthernetGates$Stream", name := "<init>", desc := "()V" } : Jvm.MethodName)),
  (Cond.instanceMethod ({ cls := "EthernetGates$Stream", name := "takesOne", desc := "(J)Z" } : Jvm.MethodName)),
  (Cond.instanceMethod ({ cls := "EthernetGates$Stream", name := "takenAt", desc := "(J)I" } : Jvm.MethodName)),
  (Cond.instanceMethod ({ cls := "EthernetGates$Address", name := "portAt", desc := "(J)I" } : Jvm.MethodName)),
  (Cond.instanceMethod ({ cls := "EthernetGates$Address", name := "isFixed", desc := "()Z" } : Jvm.MethodName)),
  (Cond.instanceMethod ({ cls := "EthernetGates", name := "queueCopies", desc := "(LEthernetGates$Port;III)I" } : Jvm.MethodName)),
  (Cond.instanceMethod ({ cls := "EthernetGates$Port", name := "queue", desc := "(III)Z" } : Jvm.MethodName)),
  (Cond.instanceMethod ({ cls := "EthernetGates$PortRank", name := "add", desc := "(II)Z" } : Jvm.MethodName)),
  (Cond.instanceMethod ({ cls := "EthernetGates", name := "run", desc := "(J)I" } : Jvm.MethodName)),
  (Cond.selects "EthernetGates" ({ cls := "EthernetGates", name := "run", desc := "(J)I" } : Jvm.MethodName) ({ cls := "EthernetGates", name := "run", desc := "(J)I" } : Jvm.MethodName)),
  (Cond.instanceMethod ({ cls := "EthernetGates", name := "endSendings", desc := "()V" } : Jvm.MethodName)),
  (Cond.instanceMethod ({ cls := "java/util/ArrayList", name := "size", desc := "()I" } : Jvm.MethodName)),
  (Cond.selects "java/util/ArrayList" ({ cls := "java/util/ArrayList", name := "size", desc := "()I" } : Jvm.MethodName) ({ cls := "java/util/ArrayList", name := "size", desc := "()I" } : Jvm.MethodName)),
  (Cond.instanceMethod ({ cls := "EthernetGates$Departure", name := "<init>", desc := "(IIJJ)V" } : Jvm.MethodName)),
  (Cond.instanceMethod ({ cls := "java/util/ArrayList", name := "add", desc := "(Ljava/lang/Object;)Z" } : Jvm.MethodName)),
  (Cond.selects "java/util/ArrayList" ({ cls := "java/util/ArrayList", name := "add", desc := "(Ljava/lang/Object;)Z" } : Jvm.MethodName) ({ cls := "java/util/ArrayList", name := "add", desc := "(Ljava/lang/Object;)Z" } : Jvm.MethodName)),
  (Cond.instanceMethod ({ cls := "java/util/ArrayList", name := "add", desc := "(Ljava/lang/Object;[Ljava/lang/Object;I)V" } : Jvm.MethodName)),
  (Cond.instanceMethod ({ cls := "java/util/ArrayList", name := "grow", desc := "()[Ljava/lang/Object;" } : Jvm.MethodName)),
  (Cond.instanceMethod ({ cls := "java/util/ArrayList", name := "grow", desc := "(I)[Ljava/lang/Object;" } : Jvm.MethodName)),
  (Cond.static ({ cls := "jdk/internal/util/ArraysSupport", name := "newLength", desc := "(III)I" } : Jvm.MethodName)),
  (Cond.static ({ cls := "java/lang/Math", name := "max", desc := "(II)I" } : Jvm.MethodName)),
  (Cond.static ({ cls := "jdk/internal/util/ArraysSupport", name := "hugeLength", desc := "(II)I" } : Jvm.MethodName)),
  (Cond.static ({ cls := "java/util/Arrays", name := "copyOf", desc := "([Ljava/lang/Object;I)[Ljava/lang/Object;" } : Jvm.MethodName)),
  (Cond.instanceMethod ({ cls := "java/lang/Object", name := "getClass", desc := "()Ljava/lang/Class;" } : Jvm.MethodName)),
  (Cond.selects "EthernetGates" ({ cls := "java/lang/Object", name := "getClass", desc := "()Ljava/lang/Class;" } : Jvm.MethodName) ({ cls := "java/lang/Object", name := "getClass", desc := "()Ljava/lang/Class;" } : Jvm.MethodName)),
  (Cond.selects "EthernetGates$Address" ({ cls := "java/lang/Object", name := "getClass", desc := "()Ljava/lang/Class;" } : Jvm.MethodName) ({ cls := "java/lang/Object", name := "getClass", desc := "()Ljava/lang/Class;" } : Jvm.MethodName)),
  (Cond.selects "EthernetGates$Departure" ({ cls := "java/lang/Object", name := "getClass", desc := "()Ljava/lang/Class;" } : Jvm.MethodName) ({ cls := "java/lang/Object", name := "getClass", desc := "()Ljava/lang/Class;" } : Jvm.MethodName)),
  (Cond.selects "EthernetGates$Port" ({ cls := "java/lang/Object", name := "getClass", desc := "()Ljava/lang/Class;" } : Jvm.MethodName) ({ cls := "java/lang/Object", name := "getClass", desc := "()Ljava/lang/Class;" } : Jvm.MethodName)),
  (Cond.selects "EthernetGates$PortRank" ({ cls := "java/lang/Object", name := "getClass", desc := "()Ljava/lang/Class;" } : Jvm.MethodName) ({ cls := "java/lang/Object", name := "getClass", desc := "()Ljava/lang/Class;" } : Jvm.MethodName)),
  (Cond.selects "EthernetGates$Stream" ({ cls := "java/lang/Object", name := "getClass", desc := "()Ljava/lang/Class;" } : Jvm.MethodName) ({ cls := "java/lang/Object", name := "getClass", desc := "()Ljava/lang/Class;" } : Jvm.MethodName)),
  (Cond.selects "EthernetGatesModel" ({ cls := "java/lang/Object", name := "getClass", desc := "()Ljava/lang/Class;" } : Jvm.MethodName) ({ cls := "java/lang/Object", name := "getClass", desc := "()Ljava/lang/Class;" } : Jvm.MethodName)),
  (Cond.selects "java/lang/ArithmeticException" ({ cls := "java/lang/Object", name := "getClass", desc := "()Ljava/lang/Class;" } : Jvm.MethodName) ({ cls := "java/lang/Object", name := "getClass", desc := "()Ljava/lang/Class;" } : Jvm.MethodName)),
  (Cond.selects "java/util/ArrayList" ({ cls := "java/lang/Object", name := "getClass", desc := "()Ljava/lang/Class;" } : Jvm.MethodName) ({ cls := "java/lang/Object", name := "getClass", desc := "()Ljava/lang/Class;" } : Jvm.MethodName)),
  (Cond.native ({ cls := "java/lang/Object", name := "getClass", desc := "()Ljava/lang/Class;" } : Jvm.MethodName)),
  (Cond.static ({ cls := "java/util/Arrays", name := "copyOf", desc := "([Ljava/lang/Object;ILjava/lang/Class;)[Ljava/lang/Object;" } : Jvm.MethodName)),
  (Cond.static ({ cls := "java/lang/Math", name := "min", desc := "(II)I" } : Jvm.MethodName)),
  (Cond.static ({ cls := "java/lang/System", name := "arraycopy", desc := "(Ljava/lang/Object;ILjava/lang/Object;II)V" } : Jvm.MethodName)),
  (Cond.native ({ cls := "java/lang/System", name := "arraycopy", desc := "(Ljava/lang/Object;ILjava/lang/Object;II)V" } : Jvm.MethodName)),
  (Cond.instanceMethod ({ cls := "EthernetGates", name := "beginSendings", desc := "()V" } : Jvm.MethodName)),
  (Cond.instanceMethod ({ cls := "EthernetGates$Port", name := "beginNext", desc := "(JJ)V" } : Jvm.MethodName)),
  (Cond.instanceMethod ({ cls := "EthernetGates$PortRank", name := "firstBits", desc := "()I" } : Jvm.MethodName)),
  (Cond.instanceMethod ({ cls := "EthernetGates$PortRank", name := "letsBegin", desc := "(JJ)Z" } : Jvm.MethodName)),
  (Cond.instanceMethod ({ cls := "EthernetGates$PortRank", name := "isShaped", desc := "()Z" } : Jvm.MethodName)),
  (Cond.instanceMethod ({ cls := "EthernetGates$PortRank", name := "isOpenFor", desc := "(JJ)Z" } : Jvm.MethodName)),
  (Cond.instanceMethod ({ cls := "EthernetGates$PortRank", name := "removeFirst", desc := "()I" } : Jvm.MethodName)),
  (Cond.instanceMethod ({ cls := "EthernetGates", name := "ticksUntilChange", desc := "()J" } : Jvm.MethodName)),
  (Cond.instanceMethod ({ cls := "EthernetGates$Port", name := "ticksUntilChange", desc := "(J)J" } : Jvm.MethodName)),
  (Cond.static ({ cls := "java/lang/Math", name := "min", desc := "(JJ)J" } : Jvm.MethodName)),
  (Cond.instanceMethod ({ cls := "EthernetGates", name := "moveCredits", desc := "(J)V" } : Jvm.MethodName)),
  (Cond.instanceMethod ({ cls := "EthernetGates$Port", name := "moveCredits", desc := "(J)V" } : Jvm.MethodName)),
  (Cond.instanceMethod ({ cls := "EthernetGates$PortRank", name := "moveCredit", desc := "(JJ)V" } : Jvm.MethodName)),
  (Cond.instanceMethod ({ cls := "EthernetGates", name := "left", desc := "(II)I" } : Jvm.MethodName)),
  (Cond.selects "EthernetGates" ({ cls := "EthernetGates", name := "left", desc := "(II)I" } : Jvm.MethodName) ({ cls := "EthernetGates", name := "left", desc := "(II)I" } : Jvm.MethodName)),
  (Cond.instanceMethod ({ cls := "java/util/ArrayList", name := "get", desc := "(I)Ljava/lang/Object;" } : Jvm.MethodName)),
  (Cond.selects "java/util/ArrayList" ({ cls := "java/util/ArrayList", name := "get", desc := "(I)Ljava/lang/Object;" } : Jvm.MethodName) ({ cls := "java/util/ArrayList", name := "get", desc := "(I)Ljava/lang/Object;" } : Jvm.MethodName)),
  (Cond.static ({ cls := "java/util/Objects", name := "checkIndex", desc := "(II)I" } : Jvm.MethodName)),
  (Cond.static ({ cls := "jdk/internal/util/Preconditions", name := "checkIndex", desc := "(IILjava/util/function/BiFunction;)I" } : Jvm.MethodName)),
  (Cond.instanceMethod ({ cls := "java/util/ArrayList", name := "elementData", desc := "(I)Ljava/lang/Object;" } : Jvm.MethodName)),
  (Cond.selects "java/util/ArrayList" ({ cls := "java/util/ArrayList", name := "elementData", desc := "(I)Ljava/lang/Object;" } : Jvm.MethodName) ({ cls := "java/util/ArrayList", name := "elementData", desc := "(I)Ljava/lang/Object;" } : Jvm.MethodName)),
  (Cond.instanceMethod ({ cls := "EthernetGates", name := "learn", desc := "(IIJ)I" } : Jvm.MethodName)),
  (Cond.selects "EthernetGates" ({ cls := "EthernetGates", name := "learn", desc := "(IIJ)I" } : Jvm.MethodName) ({ cls := "EthernetGates", name := "learn", desc := "(IIJ)I" } : Jvm.MethodName)),
  (Cond.instanceMethod ({ cls := "EthernetGates", name := "credit", desc := "(IIJJ)I" } : Jvm.MethodName)),
  (Cond.selects "EthernetGates" ({ cls := "EthernetGates", name := "credit", desc := "(IIJJ)I" } : Jvm.MethodName) ({ cls := "EthernetGates", name := "credit", desc := "(IIJJ)I" } : Jvm.MethodName)),
  (Cond.instanceMethod ({ cls := "EthernetGates$PortRank", name := "shape", desc := "(JJ)V" } : Jvm.MethodName)),
  (Cond.instanceMethod ({ cls := "EthernetGates", name := "filter", desc := "(IJ)I" } : Jvm.MethodName)),
  (Cond.selects "EthernetGates" ({ cls := "EthernetGates", name := "filter", desc := "(IJ)I" } : Jvm.MethodName) ({ cls := "EthernetGates", name := "filter", desc := "(IJ)I" } : Jvm.MethodName)),
  (Cond.instanceMethod ({ cls := "EthernetGates", name := "clock", desc := "(IJ)I" } : Jvm.MethodName)),
  (Cond.selects "EthernetGates" ({ cls := "EthernetGates", name := "clock", desc := "(IJ)I" } : Jvm.MethodName) ({ cls := "EthernetGates", name := "clock", desc := "(IJ)I" } : Jvm.MethodName)),
  (Cond.instanceMethod ({ cls := "EthernetGates", name := "dropped", desc := "(I)I" } : Jvm.MethodName)),
  (Cond.selects "EthernetGates" ({ cls := "EthernetGates", name := "dropped", desc := "(I)I" } : Jvm.MethodName) ({ cls := "EthernetGates", name := "dropped", desc := "(I)I" } : Jvm.MethodName)),
  (Cond.instanceMethod ({ cls := "EthernetGates", name := "service", desc := "(II)I" } : Jvm.MethodName)),
  (Cond.selects "EthernetGates" ({ cls := "EthernetGates", name := "service", desc := "(II)I" } : Jvm.MethodName) ({ cls := "EthernetGates", name := "service", desc := "(II)I" } : Jvm.MethodName)),
  (Cond.instanceMethod ({ cls := "EthernetGates", name := "offererOf", desc := "(I)I" } : Jvm.MethodName)),
  (Cond.static ({ cls := "EthernetGates", name := "isService", desc := "(I)Z" } : Jvm.MethodName)),
  (Cond.static ({ cls := "EthernetGatesLaw", name := "cell", desc := "([II)I" } : Jvm.MethodName)),
  (Cond.static ({ cls := "EthernetGatesLaw", name := "cycle", desc := "(LEthernetGates;J[J)I" } : Jvm.MethodName)),
  (Cond.codeWith ({ cls := "EthernetGatesLaw", name := "cycle", desc := "(LEthernetGates;J[J)I" } : Jvm.MethodName) method_3_code (5 : Nat) (Option.some Jvm.ClassFile.FieldType.int) [((0 : Nat), (9 : Nat), (12 : Nat), (13 : Nat))]),
  (Cond.instanceMethod ({ cls := "EthernetGates", name := "cycle", desc := "(J)I" } : Jvm.MethodName)),
  (Cond.selects "EthernetGates" ({ cls := "EthernetGates", name := "cycle", desc := "(J)I" } : Jvm.MethodName) ({ cls := "EthernetGates", name := "cycle", desc := "(J)I" } : Jvm.MethodName)),
  (Cond.selects "java/lang/ArithmeticException" ({ cls := "java/lang/Throwable", name := "fillInStackTrace", desc := "(I)Ljava/lang/Throwable;" } : Jvm.MethodName) ({ cls := "java/lang/Throwable", name := "fillInStackTrace", desc := "(I)Ljava/lang/Throwable;" } : Jvm.MethodName)),
  (Cond.selects "java/lang/ArithmeticException" ({ cls := "java/lang/Throwable", name := "fillInStackTrace", desc := "()Ljava/lang/Throwable;" } : Jvm.MethodName) ({ cls := "java/lang/Throwable", name := "fillInStackTrace", desc := "()Ljava/lang/Throwable;" } : Jvm.MethodName)),
  (Cond.instanceMethod ({ cls := "java/lang/Throwable", name := "<init>", desc := "()V" } : Jvm.MethodName)),
  (Cond.instanceMethod ({ cls := "java/lang/Throwable", name := "fillInStackTrace", desc := "()Ljava/lang/Throwable;" } : Jvm.MethodName)),
  (Cond.instanceMethod ({ cls := "java/lang/Throwable", name := "fillInStackTrace", desc := "(I)Ljava/lang/Throwable;" } : Jvm.MethodName)),
  (Cond.native ({ cls := "java/lang/Throwable", name := "fillInStackTrace", desc := "(I)Ljava/lang/Throwable;" } : Jvm.MethodName)),
  (Cond.instanceMethod ({ cls := "java/lang/ArithmeticException", name := "<init>", desc := "(Ljava/lang/String;)V" } : Jvm.MethodName)),
  (Cond.instanceMethod ({ cls := "java/lang/RuntimeException", name := "<init>", desc := "(Ljava/lang/String;)V" } : Jvm.MethodName)),
  (Cond.instanceMethod ({ cls := "java/lang/Exception", name := "<init>", desc := "(Ljava/lang/String;)V" } : Jvm.MethodName)),
  (Cond.instanceMethod ({ cls := "java/lang/Throwable", name := "<init>", desc := "(Ljava/lang/String;)V" } : Jvm.MethodName)),
  (Cond.instanceMethod ({ cls := "EthernetGatesModel", name := "<init>", desc := "(I)V" } : Jvm.MethodName)),
  (Cond.instanceMethod ({ cls := "EthernetGatesModel", name := "thrown", desc := "()I" } : Jvm.MethodName)),
  (Cond.selects "EthernetGatesModel" ({ cls := "EthernetGatesModel", name := "thrown", desc := "()I" } : Jvm.MethodName) ({ cls := "EthernetGatesModel", name := "thrown", desc := "()I" } : Jvm.MethodName)),
  (Cond.instanceMethod ({ cls := "EthernetGatesModel", name := "link", desc := "(IJ)I" } : Jvm.MethodName)),
  (Cond.selects "EthernetGatesModel" ({ cls := "EthernetGatesModel", name := "link", desc := "(IJ)I" } : Jvm.MethodName) ({ cls := "EthernetGatesModel", name := "link", desc := "(IJ)I" } : Jvm.MethodName)),
  (Cond.instanceMethod ({ cls := "EthernetGatesModel", name := "none", desc := "(I)Z" } : Jvm.MethodName)),
  (Cond.instanceMethod ({ cls := "EthernetGatesModel", name := "gate", desc := "(IIJJ)I" } : Jvm.MethodName)),
  (Cond.selects "EthernetGatesModel" ({ cls := "EthernetGatesModel", name := "gate", desc := "(IIJJ)I" } : Jvm.MethodName) ({ cls := "EthernetGatesModel", name := "gate", desc := "(IIJJ)I" } : Jvm.MethodName)),
  (Cond.instanceMethod ({ cls := "EthernetGatesModel", name := "noRank", desc := "(II)Z" } : Jvm.MethodName)),
  (Cond.instanceMethod ({ cls := "EthernetGatesModel", name := "cycle", desc := "(J)I" } : Jvm.MethodName)),
  (Cond.selects "EthernetGatesModel" ({ cls := "EthernetGatesModel", name := "cycle", desc := "(J)I" } : Jvm.MethodName) ({ cls := "EthernetGatesModel", name := "cycle", desc := "(J)I" } : Jvm.MethodName)),
  (Cond.instanceMethod ({ cls := "EthernetGatesModel", name := "learn", desc := "(IIJ)I" } : Jvm.MethodName)),
  (Cond.selects "EthernetGatesModel" ({ cls := "EthernetGatesModel", name := "learn", desc := "(IIJ)I" } : Jvm.MethodName) ({ cls := "EthernetGatesModel", name := "learn", desc := "(IIJ)I" } : Jvm.MethodName)),
  (Cond.instanceMethod ({ cls := "EthernetGatesModel", name := "isAt", desc := "(I)Z" } : Jvm.MethodName)),
  (Cond.instanceMethod ({ cls := "EthernetGatesModel", name := "credit", desc := "(IIJJ)I" } : Jvm.MethodName)),
  (Cond.selects "EthernetGatesModel" ({ cls := "EthernetGatesModel", name := "credit", desc := "(IIJJ)I" } : Jvm.MethodName) ({ cls := "EthernetGatesModel", name := "credit", desc := "(IIJJ)I" } : Jvm.MethodName)),
  (Cond.instanceMethod ({ cls := "EthernetGatesModel", name := "filter", desc := "(IJ)I" } : Jvm.MethodName)),
  (Cond.selects "EthernetGatesModel" ({ cls := "EthernetGatesModel", name := "filter", desc := "(IJ)I" } : Jvm.MethodName) ({ cls := "EthernetGatesModel", name := "filter", desc := "(IJ)I" } : Jvm.MethodName)),
  (Cond.instanceMethod ({ cls := "EthernetGatesModel", name := "look", desc := "(I)V" } : Jvm.MethodName)),
  (Cond.instanceMethod ({ cls := "EthernetGatesModel", name := "clock", desc := "(IJ)I" } : Jvm.MethodName)),
  (Cond.selects "EthernetGatesModel" ({ cls := "EthernetGatesModel", name := "clock", desc := "(IJ)I" } : Jvm.MethodName) ({ cls := "EthernetGatesModel", name := "clock", desc := "(IJ)I" } : Jvm.MethodName)),
  (Cond.instanceMethod ({ cls := "EthernetGatesModel", name := "service", desc := "(II)I" } : Jvm.MethodName)),
  (Cond.selects "EthernetGatesModel" ({ cls := "EthernetGatesModel", name := "service", desc := "(II)I" } : Jvm.MethodName) ({ cls := "EthernetGatesModel", name := "service", desc := "(II)I" } : Jvm.MethodName)),
  (Cond.instanceMethod ({ cls := "EthernetGatesModel", name := "frame", desc := "(IIII)I" } : Jvm.MethodName)),
  (Cond.selects "EthernetGatesModel" ({ cls := "EthernetGatesModel", name := "frame", desc := "(IIII)I" } : Jvm.MethodName) ({ cls := "EthernetGatesModel", name := "frame", desc := "(IIII)I" } : Jvm.MethodName)),
  (Cond.instanceMethod ({ cls := "EthernetGatesModel", name := "enter", desc := "(III)I" } : Jvm.MethodName)),
  (Cond.instanceMethod ({ cls := "EthernetGatesModel", name := "run", desc := "(J)I" } : Jvm.MethodName)),
  (Cond.selects "EthernetGatesModel" ({ cls := "EthernetGatesModel", name := "run", desc := "(J)I" } : Jvm.MethodName) ({ cls := "EthernetGatesModel", name := "run", desc := "(J)I" } : Jvm.MethodName)),
  (Cond.instanceMethod ({ cls := "EthernetGatesModel", name := "tick", desc := "()V" } : Jvm.MethodName)),
  (Cond.instanceMethod ({ cls := "EthernetGatesModel", name := "may", desc := "(II)Z" } : Jvm.MethodName)),
  (Cond.instanceMethod ({ cls := "EthernetGatesModel", name := "time", desc := "(II)J" } : Jvm.MethodName)),
  (Cond.instanceMethod ({ cls := "EthernetGatesModel", name := "open", desc := "(IJJ)Z" } : Jvm.MethodName)),
  (Cond.instanceMethod ({ cls := "EthernetGatesModel", name := "begin", desc := "(II)V" } : Jvm.MethodName)),
  (Cond.instanceMethod ({ cls := "EthernetGatesModel", name := "left", desc := "(II)I" } : Jvm.MethodName)),
  (Cond.selects "EthernetGatesModel" ({ cls := "EthernetGatesModel", name := "left", desc := "(II)I" } : Jvm.MethodName) ({ cls := "EthernetGatesModel", name := "left", desc := "(II)I" } : Jvm.MethodName)),
  (Cond.instanceMethod ({ cls := "EthernetGatesModel", name := "dropped", desc := "(I)I" } : Jvm.MethodName)),
  (Cond.selects "EthernetGatesModel" ({ cls := "EthernetGatesModel", name := "dropped", desc := "(I)I" } : Jvm.MethodName) ({ cls := "EthernetGatesModel", name := "dropped", desc := "(I)I" } : Jvm.MethodName)),
  (Cond.selects "[Ljava/lang/Object;" ({ cls := "java/lang/Object", name := "getClass", desc := "()Ljava/lang/Class;" } : Jvm.MethodName) ({ cls := "java/lang/Object", name := "getClass", desc := "()Ljava/lang/Class;" } : Jvm.MethodName))]
def am_Ts : List Cond := [Cond.selects "EthernetGates" ⟨"EthernetGates", "findPort", "(I)LEthernetGates$Port;"⟩ ⟨"EthernetGates", "findPort", "(I)LEthernetGates$Port;"⟩,
  Cond.selects "EthernetGates$Port" ⟨"EthernetGates$Port", "isSending", "()Z"⟩ ⟨"EthernetGates$Port", "isSending", "()Z"⟩,
  Cond.selects "EthernetGates$Port" ⟨"EthernetGates$Port", "loseFrames", "()I"⟩ ⟨"EthernetGates$Port", "loseFrames", "()I"⟩,
  Cond.selects "EthernetGates$PortRank" ⟨"EthernetGates$PortRank", "addWindow", "(JJ)Z"⟩ ⟨"EthernetGates$PortRank", "addWindow", "(JJ)Z"⟩,
  Cond.selects "EthernetGates" ⟨"EthernetGates", "addressOf", "(I)LEthernetGates$Address;"⟩ ⟨"EthernetGates", "addressOf", "(I)LEthernetGates$Address;"⟩,
  Cond.selects "EthernetGates$Stream" ⟨"EthernetGates$Stream", "takesOne", "(J)Z"⟩ ⟨"EthernetGates$Stream", "takesOne", "(J)Z"⟩,
  Cond.selects "EthernetGates$Stream" ⟨"EthernetGates$Stream", "takenAt", "(J)I"⟩ ⟨"EthernetGates$Stream", "takenAt", "(J)I"⟩,
  Cond.selects "EthernetGates$Address" ⟨"EthernetGates$Address", "portAt", "(J)I"⟩ ⟨"EthernetGates$Address", "portAt", "(J)I"⟩,
  Cond.selects "EthernetGates$Address" ⟨"EthernetGates$Address", "isFixed", "()Z"⟩ ⟨"EthernetGates$Address", "isFixed", "()Z"⟩,
  Cond.selects "EthernetGates" ⟨"EthernetGates", "queueCopies", "(LEthernetGates$Port;III)I"⟩ ⟨"EthernetGates", "queueCopies", "(LEthernetGates$Port;III)I"⟩,
  Cond.selects "EthernetGates$Port" ⟨"EthernetGates$Port", "queue", "(III)Z"⟩ ⟨"EthernetGates$Port", "queue", "(III)Z"⟩,
  Cond.selects "EthernetGates$PortRank" ⟨"EthernetGates$PortRank", "add", "(II)Z"⟩ ⟨"EthernetGates$PortRank", "add", "(II)Z"⟩,
  Cond.selects "EthernetGates" ⟨"EthernetGates", "endSendings", "()V"⟩ ⟨"EthernetGates", "endSendings", "()V"⟩,
  Cond.selects "java/util/ArrayList" ⟨"java/util/ArrayList", "add", "(Ljava/lang/Object;[Ljava/lang/Object;I)V"⟩ ⟨"java/util/ArrayList", "add", "(Ljava/lang/Object;[Ljava/lang/Object;I)V"⟩,
  Cond.selects "java/util/ArrayList" ⟨"java/util/ArrayList", "grow", "()[Ljava/lang/Object;"⟩ ⟨"java/util/ArrayList", "grow", "()[Ljava/lang/Object;"⟩,
  Cond.selects "java/util/ArrayList" ⟨"java/util/ArrayList", "grow", "(I)[Ljava/lang/Object;"⟩ ⟨"java/util/ArrayList", "grow", "(I)[Ljava/lang/Object;"⟩,
  Cond.selects "EthernetGates" ⟨"EthernetGates", "beginSendings", "()V"⟩ ⟨"EthernetGates", "beginSendings", "()V"⟩,
  Cond.selects "EthernetGates$Port" ⟨"EthernetGates$Port", "beginNext", "(JJ)V"⟩ ⟨"EthernetGates$Port", "beginNext", "(JJ)V"⟩,
  Cond.selects "EthernetGates$PortRank" ⟨"EthernetGates$PortRank", "firstBits", "()I"⟩ ⟨"EthernetGates$PortRank", "firstBits", "()I"⟩,
  Cond.selects "EthernetGates$PortRank" ⟨"EthernetGates$PortRank", "letsBegin", "(JJ)Z"⟩ ⟨"EthernetGates$PortRank", "letsBegin", "(JJ)Z"⟩,
  Cond.selects "EthernetGates$PortRank" ⟨"EthernetGates$PortRank", "isShaped", "()Z"⟩ ⟨"EthernetGates$PortRank", "isShaped", "()Z"⟩,
  Cond.selects "EthernetGates$PortRank" ⟨"EthernetGates$PortRank", "isOpenFor", "(JJ)Z"⟩ ⟨"EthernetGates$PortRank", "isOpenFor", "(JJ)Z"⟩,
  Cond.selects "EthernetGates$PortRank" ⟨"EthernetGates$PortRank", "removeFirst", "()I"⟩ ⟨"EthernetGates$PortRank", "removeFirst", "()I"⟩,
  Cond.selects "EthernetGates" ⟨"EthernetGates", "ticksUntilChange", "()J"⟩ ⟨"EthernetGates", "ticksUntilChange", "()J"⟩,
  Cond.selects "EthernetGates$Port" ⟨"EthernetGates$Port", "ticksUntilChange", "(J)J"⟩ ⟨"EthernetGates$Port", "ticksUntilChange", "(J)J"⟩,
  Cond.selects "EthernetGates" ⟨"EthernetGates", "moveCredits", "(J)V"⟩ ⟨"EthernetGates", "moveCredits", "(J)V"⟩,
  Cond.selects "EthernetGates$Port" ⟨"EthernetGates$Port", "moveCredits", "(J)V"⟩ ⟨"EthernetGates$Port", "moveCredits", "(J)V"⟩,
  Cond.selects "EthernetGates$PortRank" ⟨"EthernetGates$PortRank", "moveCredit", "(JJ)V"⟩ ⟨"EthernetGates$PortRank", "moveCredit", "(JJ)V"⟩,
  Cond.selects "EthernetGates$PortRank" ⟨"EthernetGates$PortRank", "shape", "(JJ)V"⟩ ⟨"EthernetGates$PortRank", "shape", "(JJ)V"⟩,
  Cond.selects "EthernetGates" ⟨"EthernetGates", "offererOf", "(I)I"⟩ ⟨"EthernetGates", "offererOf", "(I)I"⟩,
  Cond.selects "java/lang/Throwable" ⟨"java/lang/Throwable", "fillInStackTrace", "(I)Ljava/lang/Throwable;"⟩ ⟨"java/lang/Throwable", "fillInStackTrace", "(I)Ljava/lang/Throwable;"⟩,
  Cond.selects "EthernetGatesModel" ⟨"EthernetGatesModel", "none", "(I)Z"⟩ ⟨"EthernetGatesModel", "none", "(I)Z"⟩,
  Cond.selects "EthernetGatesModel" ⟨"EthernetGatesModel", "noRank", "(II)Z"⟩ ⟨"EthernetGatesModel", "noRank", "(II)Z"⟩,
  Cond.selects "EthernetGatesModel" ⟨"EthernetGatesModel", "isAt", "(I)Z"⟩ ⟨"EthernetGatesModel", "isAt", "(I)Z"⟩,
  Cond.selects "EthernetGatesModel" ⟨"EthernetGatesModel", "look", "(I)V"⟩ ⟨"EthernetGatesModel", "look", "(I)V"⟩,
  Cond.selects "EthernetGatesModel" ⟨"EthernetGatesModel", "enter", "(III)I"⟩ ⟨"EthernetGatesModel", "enter", "(III)I"⟩,
  Cond.selects "EthernetGatesModel" ⟨"EthernetGatesModel", "tick", "()V"⟩ ⟨"EthernetGatesModel", "tick", "()V"⟩,
  Cond.selects "EthernetGatesModel" ⟨"EthernetGatesModel", "may", "(II)Z"⟩ ⟨"EthernetGatesModel", "may", "(II)Z"⟩,
  Cond.selects "EthernetGatesModel" ⟨"EthernetGatesModel", "time", "(II)J"⟩ ⟨"EthernetGatesModel", "time", "(II)J"⟩,
  Cond.selects "EthernetGatesModel" ⟨"EthernetGatesModel", "open", "(IJJ)Z"⟩ ⟨"EthernetGatesModel", "open", "(IJJ)Z"⟩,
  Cond.selects "EthernetGatesModel" ⟨"EthernetGatesModel", "begin", "(II)V"⟩ ⟨"EthernetGatesModel", "begin", "(II)V"⟩]
def am_Tq : List Cond := [(Cond.code ({ cls := "EthernetGates", name := "<init>", desc := "(I)V" } : Jvm.MethodName) prog_1_method_1_code (4 : Nat) (Option.none : Option Jvm.ClassFile.FieldType)),
  (Cond.code ({ cls := "java/lang/Object", name := "<init>", desc := "()V" } : Jvm.MethodName) object_method_1_code (1 : Nat) (Option.none : Option Jvm.ClassFile.FieldType)),
  (Cond.code ({ cls := "EthernetGates$Port", name := "<init>", desc := "(I)V" } : Jvm.MethodName) prog_4_method_1_code (3 : Nat) (Option.none : Option Jvm.ClassFile.FieldType)),
  (Cond.code ({ cls := "EthernetGates$PortRank", name := "<init>", desc := "()V" } : Jvm.MethodName) prog_5_method_1_code (1 : Nat) (Option.none : Option Jvm.ClassFile.FieldType)),
  (Cond.code ({ cls := "java/util/ArrayList", name := "<init>", desc := "()V" } : Jvm.MethodName) prog_21_method_2_code (1 : Nat) (Option.none : Option Jvm.ClassFile.FieldType)),
  (Cond.code ({ cls := "java/util/AbstractList", name := "<init>", desc := "()V" } : Jvm.MethodName) prog_20_method_1_code (1 : Nat) (Option.none : Option Jvm.ClassFile.FieldType)),
  (Cond.code ({ cls := "java/util/AbstractCollection", name := "<init>", desc := "()V" } : Jvm.MethodName) prog_19_method_1_code (1 : Nat) (Option.none : Option Jvm.ClassFile.FieldType)),
  (Cond.code ({ cls := "EthernetGates", name := "link", desc := "(IJ)I" } : Jvm.MethodName) prog_1_method_2_code (6 : Nat) (Option.some Jvm.ClassFile.FieldType.int)),
  (Cond.code ({ cls := "EthernetGates", name := "findPort", desc := "(I)LEthernetGates$Port;" } : Jvm.MethodName) prog_1_method_15_code (2 : Nat) (Option.some (Jvm.ClassFile.FieldType.object "EthernetGates$Port"))),
  (Cond.code ({ cls := "EthernetGates$Port", name := "isSending", desc := "()Z" } : Jvm.MethodName) prog_4_method_2_code (1 : Nat) (Option.some Jvm.ClassFile.FieldType.boolean)),
  (Cond.code ({ cls := "EthernetGates$Port", name := "loseFrames", desc := "()I" } : Jvm.MethodName) prog_4_method_4_code (3 : Nat) (Option.some Jvm.ClassFile.FieldType.int)),
  (Cond.code ({ cls := "EthernetGates", name := "gate", desc := "(IIJJ)I" } : Jvm.MethodName) prog_1_method_3_code (9 : Nat) (Option.some Jvm.ClassFile.FieldType.int)),
  (Cond.code ({ cls := "EthernetGates", name := "isRank", desc := "(I)Z" } : Jvm.MethodName) prog_1_method_17_code (1 : Nat) (Option.some Jvm.ClassFile.FieldType.boolean)),
  (Cond.code ({ cls := "EthernetGates$PortRank", name := "addWindow", desc := "(JJ)Z" } : Jvm.MethodName) prog_5_method_5_code (5 : Nat) (Option.some Jvm.ClassFile.FieldType.boolean)),
  (Cond.code ({ cls := "java/lang/Math", name := "max", desc := "(JJ)J" } : Jvm.MethodName) prog_14_method_66_code (4 : Nat) (Option.some Jvm.ClassFile.FieldType.long)),
  (Cond.code ({ cls := "EthernetGates", name := "frame", desc := "(IIII)I" } : Jvm.MethodName) prog_1_method_5_code (7 : Nat) (Option.some Jvm.ClassFile.FieldType.int)),
  (Cond.code ({ cls := "EthernetGates", name := "isAddress", desc := "(I)Z" } : Jvm.MethodName) prog_1_method_18_code (1 : Nat) (Option.some Jvm.ClassFile.FieldType.boolean)),
  (Cond.code ({ cls := "EthernetGates", name := "addressOf", desc := "(I)LEthernetGates$Address;" } : Jvm.MethodName) prog_1_method_16_code (3 : Nat) (Option.some (Jvm.ClassFile.FieldType.object "EthernetGates$Address"))),
  (Cond.code ({ cls := "EthernetGates$Address", name := "<init>", desc := "()V" } : Jvm.MethodName) prog_2_method_1_code (2 : Nat) (Option.none : Option Jvm.ClassFile.FieldType)),
  (Cond.code ({ cls := "EthernetGates$Stream", name := "<init>", desc := "()V" } : Jvm.MethodName) prog_6_method_1_code (1 : Nat) (Option.none : Option Jvm.ClassFile.FieldType)),
  (Cond.code ({ cls := "EthernetGates$Stream", name := "takesOne", desc := "(J)Z" } : Jvm.MethodName) prog_6_method_3_code (4 : Nat) (Option.some Jvm.ClassFile.FieldType.boolean)),
  (Cond.code ({ cls := "EthernetGates$Stream", name := "takenAt", desc := "(J)I" } : Jvm.MethodName) prog_6_method_2_code (3 : Nat) (Option.some Jvm.ClassFile.FieldType.int)),
  (Cond.code ({ cls := "EthernetGates$Address", name := "portAt", desc := "(J)I" } : Jvm.MethodName) prog_2_method_3_code (3 : Nat) (Option.some Jvm.ClassFile.FieldType.int)),
  (Cond.code ({ cls := "EthernetGates$Address", name := "isFixed", desc := "()Z" } : Jvm.MethodName) prog_2_method_2_code (1 : Nat) (Option.some Jvm.ClassFile.FieldType.boolean)),
  (Cond.code ({ cls := "EthernetGates", name := "queueCopies", desc := "(LEthernetGates$Port;III)I" } : Jvm.MethodName) prog_1_method_20_code (9 : Nat) (Option.some Jvm.ClassFile.FieldType.int)),
  (Cond.code ({ cls := "EthernetGates$Port", name := "queue", desc := "(III)Z" } : Jvm.MethodName) prog_4_method_3_code (4 : Nat) (Option.some Jvm.ClassFile.FieldType.boolean)),
  (Cond.code ({ cls := "EthernetGates$PortRank", name := "add", desc := "(II)Z" } : Jvm.MethodName) prog_5_method_2_code (4 : Nat) (Option.some Jvm.ClassFile.FieldType.boolean)),
  (Cond.code ({ cls := "EthernetGates", name := "run", desc := "(J)I" } : Jvm.MethodName) prog_1_method_6_code (9 : Nat) (Option.some Jvm.ClassFile.FieldType.int)),
  (Cond.code ({ cls := "EthernetGates", name := "endSendings", desc := "()V" } : Jvm.MethodName) prog_1_method_21_code (3 : Nat) (Option.none : Option Jvm.ClassFile.FieldType)),
  (Cond.code ({ cls := "java/util/ArrayList", name := "size", desc := "()I" } : Jvm.MethodName) prog_21_method_8_code (1 : Nat) (Option.some Jvm.ClassFile.FieldType.int)),
  (Cond.code ({ cls := "EthernetGates$Departure", name := "<init>", desc := "(IIJJ)V" } : Jvm.MethodName) prog_3_method_1_code (7 : Nat) (Option.none : Option Jvm.ClassFile.FieldType)),
  (Cond.code ({ cls := "java/util/ArrayList", name := "add", desc := "(Ljava/lang/Object;)Z" } : Jvm.MethodName) prog_21_method_25_code (2 : Nat) (Option.some Jvm.ClassFile.FieldType.boolean)),
  (Cond.code ({ cls := "java/util/ArrayList", name := "add", desc := "(Ljava/lang/Object;[Ljava/lang/Object;I)V" } : Jvm.MethodName) prog_21_method_24_code (4 : Nat) (Option.none : Option Jvm.ClassFile.FieldType)),
  (Cond.code ({ cls := "java/util/ArrayList", name := "grow", desc := "()[Ljava/lang/Object;" } : Jvm.MethodName) prog_21_method_7_code (1 : Nat) (Option.some (Jvm.ClassFile.FieldType.array (Jvm.ClassFile.FieldType.object "java/lang/Object")))),
  (Cond.code ({ cls := "java/util/ArrayList", name := "grow", desc := "(I)[Ljava/lang/Object;" } : Jvm.MethodName) prog_21_method_6_code (4 : Nat) (Option.some (Jvm.ClassFile.FieldType.array (Jvm.ClassFile.FieldType.object "java/lang/Object")))),
  (Cond.code ({ cls := "jdk/internal/util/ArraysSupport", name := "newLength", desc := "(III)I" } : Jvm.MethodName) prog_28_method_27_code (4 : Nat) (Option.some Jvm.ClassFile.FieldType.int)),
  (Cond.code ({ cls := "java/lang/Math", name := "max", desc := "(II)I" } : Jvm.MethodName) prog_14_method_65_code (2 : Nat) (Option.some Jvm.ClassFile.FieldType.int)),
  (Cond.code ({ cls := "jdk/internal/util/ArraysSupport", name := "hugeLength", desc := "(II)I" } : Jvm.MethodName) prog_28_method_28_code (3 : Nat) (Option.some Jvm.ClassFile.FieldType.int)),
  (Cond.code ({ cls := "java/util/Arrays", name := "copyOf", desc := "([Ljava/lang/Object;I)[Ljava/lang/Object;" } : Jvm.MethodName) prog_22_method_119_code (2 : Nat) (Option.some (Jvm.ClassFile.FieldType.array (Jvm.ClassFile.FieldType.object "java/lang/Object")))),
  (Cond.code ({ cls := "java/util/Arrays", name := "copyOf", desc := "([Ljava/lang/Object;ILjava/lang/Class;)[Ljava/lang/Object;" } : Jvm.MethodName) prog_22_method_120_code (4 : Nat) (Option.some (Jvm.ClassFile.FieldType.array (Jvm.ClassFile.FieldType.object "java/lang/Object")))),
  (Cond.code ({ cls := "java/lang/Math", name := "min", desc := "(II)I" } : Jvm.MethodName) prog_14_method_69_code (2 : Nat) (Option.some Jvm.ClassFile.FieldType.int)),
  (Cond.code ({ cls := "EthernetGates", name := "beginSendings", desc := "()V" } : Jvm.MethodName) prog_1_method_22_code (2 : Nat) (Option.none : Option Jvm.ClassFile.FieldType)),
  (Cond.code ({ cls := "EthernetGates$Port", name := "beginNext", desc := "(JJ)V" } : Jvm.MethodName) prog_4_method_5_code (11 : Nat) (Option.none : Option Jvm.ClassFile.FieldType)),
  (Cond.code ({ cls := "EthernetGates$PortRank", name := "firstBits", desc := "()I" } : Jvm.MethodName) prog_5_method_4_code (1 : Nat) (Option.some Jvm.ClassFile.FieldType.int)),
  (Cond.code ({ cls := "EthernetGates$PortRank", name := "letsBegin", desc := "(JJ)Z" } : Jvm.MethodName) prog_5_method_8_code (5 : Nat) (Option.some Jvm.ClassFile.FieldType.boolean)),
  (Cond.code ({ cls := "EthernetGates$PortRank", name := "isShaped", desc := "()Z" } : Jvm.MethodName) prog_5_method_6_code (1 : Nat) (Option.some Jvm.ClassFile.FieldType.boolean)),
  (Cond.code ({ cls := "EthernetGates$PortRank", name := "isOpenFor", desc := "(JJ)Z" } : Jvm.MethodName) prog_5_method_9_code (6 : Nat) (Option.some Jvm.ClassFile.FieldType.boolean)),
  (Cond.code ({ cls := "EthernetGates$PortRank", name := "removeFirst", desc := "()I" } : Jvm.MethodName) prog_5_method_3_code (2 : Nat) (Option.some Jvm.ClassFile.FieldType.int)),
  (Cond.code ({ cls := "EthernetGates", name := "ticksUntilChange", desc := "()J" } : Jvm.MethodName) prog_1_method_23_code (4 : Nat) (Option.some Jvm.ClassFile.FieldType.long)),
  (Cond.code ({ cls := "EthernetGates$Port", name := "ticksUntilChange", desc := "(J)J" } : Jvm.MethodName) prog_4_method_6_code (3 : Nat) (Option.some Jvm.ClassFile.FieldType.long)),
  (Cond.code ({ cls := "java/lang/Math", name := "min", desc := "(JJ)J" } : Jvm.MethodName) prog_14_method_70_code (4 : Nat) (Option.some Jvm.ClassFile.FieldType.long)),
  (Cond.code ({ cls := "EthernetGates", name := "moveCredits", desc := "(J)V" } : Jvm.MethodName) prog_1_method_24_code (4 : Nat) (Option.none : Option Jvm.ClassFile.FieldType)),
  (Cond.code ({ cls := "EthernetGates$Port", name := "moveCredits", desc := "(J)V" } : Jvm.MethodName) prog_4_method_7_code (5 : Nat) (Option.none : Option Jvm.ClassFile.FieldType)),
  (Cond.code ({ cls := "EthernetGates$PortRank", name := "moveCredit", desc := "(JJ)V" } : Jvm.MethodName) prog_5_method_10_code (5 : Nat) (Option.none : Option Jvm.ClassFile.FieldType)),
  (Cond.code ({ cls := "EthernetGates", name := "left", desc := "(II)I" } : Jvm.MethodName) prog_1_method_7_code (4 : Nat) (Option.some Jvm.ClassFile.FieldType.int)),
  (Cond.code ({ cls := "java/util/ArrayList", name := "get", desc := "(I)Ljava/lang/Object;" } : Jvm.MethodName) prog_21_method_20_code (2 : Nat) (Option.some (Jvm.ClassFile.FieldType.object "java/lang/Object"))),
  (Cond.code ({ cls := "java/util/Objects", name := "checkIndex", desc := "(II)I" } : Jvm.MethodName) prog_25_method_17_code (2 : Nat) (Option.some Jvm.ClassFile.FieldType.int)),
  (Cond.code ({ cls := "jdk/internal/util/Preconditions", name := "checkIndex", desc := "(IILjava/util/function/BiFunction;)I" } : Jvm.MethodName) prog_29_method_11_code (3 : Nat) (Option.some Jvm.ClassFile.FieldType.int)),
  (Cond.code ({ cls := "java/util/ArrayList", name := "elementData", desc := "(I)Ljava/lang/Object;" } : Jvm.MethodName) prog_21_method_18_code (2 : Nat) (Option.some (Jvm.ClassFile.FieldType.object "java/lang/Object"))),
  (Cond.code ({ cls := "EthernetGates", name := "learn", desc := "(IIJ)I" } : Jvm.MethodName) prog_1_method_8_code (7 : Nat) (Option.some Jvm.ClassFile.FieldType.int)),
  (Cond.code ({ cls := "EthernetGates", name := "credit", desc := "(IIJJ)I" } : Jvm.MethodName) prog_1_method_9_code (8 : Nat) (Option.some Jvm.ClassFile.FieldType.int)),
  (Cond.code ({ cls := "EthernetGates$PortRank", name := "shape", desc := "(JJ)V" } : Jvm.MethodName) prog_5_method_7_code (5 : Nat) (Option.none : Option Jvm.ClassFile.FieldType)),
  (Cond.code ({ cls := "EthernetGates", name := "filter", desc := "(IJ)I" } : Jvm.MethodName) prog_1_method_10_code (6 : Nat) (Option.some Jvm.ClassFile.FieldType.int)),
  (Cond.code ({ cls := "EthernetGates", name := "clock", desc := "(IJ)I" } : Jvm.MethodName) prog_1_method_11_code (7 : Nat) (Option.some Jvm.ClassFile.FieldType.int)),
  (Cond.code ({ cls := "EthernetGates", name := "dropped", desc := "(I)I" } : Jvm.MethodName) prog_1_method_12_code (2 : Nat) (Option.some Jvm.ClassFile.FieldType.int)),
  (Cond.code ({ cls := "EthernetGates", name := "service", desc := "(II)I" } : Jvm.MethodName) prog_1_method_13_code (3 : Nat) (Option.some Jvm.ClassFile.FieldType.int)),
  (Cond.code ({ cls := "EthernetGates", name := "offererOf", desc := "(I)I" } : Jvm.MethodName) prog_1_method_14_code (2 : Nat) (Option.some Jvm.ClassFile.FieldType.int)),
  (Cond.code ({ cls := "EthernetGates", name := "isService", desc := "(I)Z" } : Jvm.MethodName) prog_1_method_19_code (1 : Nat) (Option.some Jvm.ClassFile.FieldType.boolean)),
  (Cond.code ({ cls := "EthernetGatesLaw", name := "cell", desc := "([II)I" } : Jvm.MethodName) method_2_code (2 : Nat) (Option.some Jvm.ClassFile.FieldType.int)),
  (Cond.code ({ cls := "EthernetGates", name := "cycle", desc := "(J)I" } : Jvm.MethodName) prog_1_method_4_code (3 : Nat) (Option.some Jvm.ClassFile.FieldType.int)),
  (Cond.code ({ cls := "java/lang/Throwable", name := "<init>", desc := "()V" } : Jvm.MethodName) prog_18_method_1_code (1 : Nat) (Option.none : Option Jvm.ClassFile.FieldType)),
  (Cond.code ({ cls := "java/lang/ArithmeticException", name := "<init>", desc := "(Ljava/lang/String;)V" } : Jvm.MethodName) prog_10_method_2_code (2 : Nat) (Option.none : Option Jvm.ClassFile.FieldType)),
  (Cond.code ({ cls := "java/lang/RuntimeException", name := "<init>", desc := "(Ljava/lang/String;)V" } : Jvm.MethodName) prog_15_method_2_code (2 : Nat) (Option.none : Option Jvm.ClassFile.FieldType)),
  (Cond.code ({ cls := "java/lang/Exception", name := "<init>", desc := "(Ljava/lang/String;)V" } : Jvm.MethodName) prog_12_method_2_code (2 : Nat) (Option.none : Option Jvm.ClassFile.FieldType)),
  (Cond.code ({ cls := "java/lang/Throwable", name := "<init>", desc := "(Ljava/lang/String;)V" } : Jvm.MethodName) prog_18_method_2_code (2 : Nat) (Option.none : Option Jvm.ClassFile.FieldType)),
  (Cond.code ({ cls := "EthernetGatesModel", name := "<init>", desc := "(I)V" } : Jvm.MethodName) prog_8_method_1_code (2 : Nat) (Option.none : Option Jvm.ClassFile.FieldType)),
  (Cond.code ({ cls := "EthernetGatesModel", name := "thrown", desc := "()I" } : Jvm.MethodName) prog_8_method_2_code (1 : Nat) (Option.some Jvm.ClassFile.FieldType.int)),
  (Cond.code ({ cls := "EthernetGatesModel", name := "link", desc := "(IJ)I" } : Jvm.MethodName) prog_8_method_5_code (6 : Nat) (Option.some Jvm.ClassFile.FieldType.int)),
  (Cond.code ({ cls := "EthernetGatesModel", name := "none", desc := "(I)Z" } : Jvm.MethodName) prog_8_method_3_code (2 : Nat) (Option.some Jvm.ClassFile.FieldType.boolean)),
  (Cond.code ({ cls := "EthernetGatesModel", name := "gate", desc := "(IIJJ)I" } : Jvm.MethodName) prog_8_method_6_code (8 : Nat) (Option.some Jvm.ClassFile.FieldType.int)),
  (Cond.code ({ cls := "EthernetGatesModel", name := "noRank", desc := "(II)Z" } : Jvm.MethodName) prog_8_method_4_code (3 : Nat) (Option.some Jvm.ClassFile.FieldType.boolean)),
  (Cond.code ({ cls := "EthernetGatesModel", name := "cycle", desc := "(J)I" } : Jvm.MethodName) prog_8_method_7_code (5 : Nat) (Option.some Jvm.ClassFile.FieldType.int)),
  (Cond.code ({ cls := "EthernetGatesModel", name := "learn", desc := "(IIJ)I" } : Jvm.MethodName) prog_8_method_9_code (6 : Nat) (Option.some Jvm.ClassFile.FieldType.int)),
  (Cond.code ({ cls := "EthernetGatesModel", name := "isAt", desc := "(I)Z" } : Jvm.MethodName) prog_8_method_8_code (2 : Nat) (Option.some Jvm.ClassFile.FieldType.boolean)),
  (Cond.code ({ cls := "EthernetGatesModel", name := "credit", desc := "(IIJJ)I" } : Jvm.MethodName) prog_8_method_10_code (7 : Nat) (Option.some Jvm.ClassFile.FieldType.int)),
  (Cond.code ({ cls := "EthernetGatesModel", name := "filter", desc := "(IJ)I" } : Jvm.MethodName) prog_8_method_12_code (4 : Nat) (Option.some Jvm.ClassFile.FieldType.int)),
  (Cond.code ({ cls := "EthernetGatesModel", name := "look", desc := "(I)V" } : Jvm.MethodName) prog_8_method_11_code (2 : Nat) (Option.none : Option Jvm.ClassFile.FieldType)),
  (Cond.code ({ cls := "EthernetGatesModel", name := "clock", desc := "(IJ)I" } : Jvm.MethodName) prog_8_method_13_code (4 : Nat) (Option.some Jvm.ClassFile.FieldType.int)),
  (Cond.code ({ cls := "EthernetGatesModel", name := "service", desc := "(II)I" } : Jvm.MethodName) prog_8_method_14_code (3 : Nat) (Option.some Jvm.ClassFile.FieldType.int)),
  (Cond.code ({ cls := "EthernetGatesModel", name := "frame", desc := "(IIII)I" } : Jvm.MethodName) prog_8_method_16_code (10 : Nat) (Option.some Jvm.ClassFile.FieldType.int)),
  (Cond.code ({ cls := "EthernetGatesModel", name := "enter", desc := "(III)I" } : Jvm.MethodName) prog_8_method_15_code (5 : Nat) (Option.some Jvm.ClassFile.FieldType.int)),
  (Cond.code ({ cls := "EthernetGatesModel", name := "run", desc := "(J)I" } : Jvm.MethodName) prog_8_method_22_code (6 : Nat) (Option.some Jvm.ClassFile.FieldType.int)),
  (Cond.code ({ cls := "EthernetGatesModel", name := "tick", desc := "()V" } : Jvm.MethodName) prog_8_method_21_code (3 : Nat) (Option.none : Option Jvm.ClassFile.FieldType)),
  (Cond.code ({ cls := "EthernetGatesModel", name := "may", desc := "(II)Z" } : Jvm.MethodName) prog_8_method_19_code (5 : Nat) (Option.some Jvm.ClassFile.FieldType.boolean)),
  (Cond.code ({ cls := "EthernetGatesModel", name := "time", desc := "(II)J" } : Jvm.MethodName) prog_8_method_17_code (5 : Nat) (Option.some Jvm.ClassFile.FieldType.long)),
  (Cond.code ({ cls := "EthernetGatesModel", name := "open", desc := "(IJJ)Z" } : Jvm.MethodName) prog_8_method_18_code (8 : Nat) (Option.some Jvm.ClassFile.FieldType.boolean)),
  (Cond.code ({ cls := "EthernetGatesModel", name := "begin", desc := "(II)V" } : Jvm.MethodName) prog_8_method_20_code (5 : Nat) (Option.none : Option Jvm.ClassFile.FieldType)),
  (Cond.code ({ cls := "EthernetGatesModel", name := "left", desc := "(II)I" } : Jvm.MethodName) prog_8_method_23_code (3 : Nat) (Option.some Jvm.ClassFile.FieldType.int)),
  (Cond.code ({ cls := "EthernetGatesModel", name := "dropped", desc := "(I)I" } : Jvm.MethodName) prog_8_method_24_code (2 : Nat) (Option.some Jvm.ClassFile.FieldType.int))]
def am_Tg : List Cond := am_Tf ++ (am_Tm ++ (am_Tc ++ (am_Ti ++ (am_Tx ++ (am_Tk ++ (am_Ts ++ am_Tq))))))
abbrev mi_X_init : Nat := 1
abbrev mi_P_init : Nat := 2
abbrev mi_K_init : Nat := 3
abbrev mi_L_init : Nat := 4
abbrev mi_L1_init : Nat := 5
abbrev mi_L0_init : Nat := 6
abbrev mi_X_link : Nat := 7
abbrev mi_X_findPort : Nat := 8
abbrev mi_P_isSending : Nat := 9
abbrev mi_P_loseFrames : Nat := 10
abbrev mi_X_gate : Nat := 11
abbrev mi_X_isRank : Nat := 12
abbrev mi_K_addWindow : Nat := 13
abbrev mi_X_frame : Nat := 14
abbrev mi_X_isAddress : Nat := 15
abbrev mi_X_addressOf : Nat := 16
abbrev mi_A_init : Nat := 17
abbrev mi_S_init : Nat := 18
abbrev mi_S_takesOne : Nat := 19
abbrev mi_S_takenAt : Nat := 20
abbrev mi_A_portAt : Nat := 21
abbrev mi_A_isFixed : Nat := 22
abbrev mi_X_queueCopies : Nat := 23
abbrev mi_P_queue : Nat := 24
abbrev mi_K_add : Nat := 25
abbrev mi_X_run : Nat := 26
abbrev mi_X_endSendings : Nat := 27
abbrev mi_L_size : Nat := 28
abbrev mi_D_init : Nat := 29
abbrev mi_L_add : Nat := 30
abbrev mi_L_add2 : Nat := 31
abbrev mi_L_grow : Nat := 32
abbrev mi_L_grow2 : Nat := 33
abbrev mi_Q_newLength : Nat := 34
abbrev mi_Q_hugeLength : Nat := 35
abbrev mi_R_copyOf : Nat := 36
abbrev mi_X_beginSendings : Nat := 37
abbrev mi_P_beginNext : Nat := 38
abbrev mi_K_firstBits : Nat := 39
abbrev mi_K_letsBegin : Nat := 40
abbrev mi_K_isShaped : Nat := 41
abbrev mi_K_isOpenFor : Nat := 42
abbrev mi_K_removeFirst : Nat := 43
abbrev mi_X_ticksUntilChange : Nat := 44
abbrev mi_P_ticksUntilChange : Nat := 45
abbrev mi_X_moveCredits : Nat := 46
abbrev mi_P_moveCredits : Nat := 47
abbrev mi_K_moveCredit : Nat := 48
abbrev mi_X_left : Nat := 49
abbrev mi_L_get : Nat := 50
abbrev mi_O_checkIndex : Nat := 51
abbrev mi_V_checkIndex : Nat := 52
abbrev mi_L_elementData : Nat := 53
abbrev mi_X_learn : Nat := 54
abbrev mi_X_credit : Nat := 55
abbrev mi_K_shape : Nat := 56
abbrev mi_X_filter : Nat := 57
abbrev mi_X_clock : Nat := 58
abbrev mi_X_dropped : Nat := 59
abbrev mi_X_service : Nat := 60
abbrev mi_X_offererOf : Nat := 61
abbrev mi_X_isService : Nat := 62
abbrev mi_W_cell : Nat := 63
abbrev mi_X_cycle : Nat := 64
abbrev mi_M_init : Nat := 65
abbrev mi_M_thrown : Nat := 66
abbrev mi_M_link : Nat := 67
abbrev mi_M_none : Nat := 68
abbrev mi_M_gate : Nat := 69
abbrev mi_M_noRank : Nat := 70
abbrev mi_M_cycle : Nat := 71
abbrev mi_M_learn : Nat := 72
abbrev mi_M_isAt : Nat := 73
abbrev mi_M_credit : Nat := 74
abbrev mi_M_filter : Nat := 75
abbrev mi_M_look : Nat := 76
abbrev mi_M_clock : Nat := 77
abbrev mi_M_service : Nat := 78
abbrev mi_M_frame : Nat := 79
abbrev mi_M_enter : Nat := 80
abbrev mi_M_run : Nat := 81
abbrev mi_M_tick : Nat := 82
abbrev mi_M_may : Nat := 83
abbrev mi_M_time : Nat := 84
abbrev mi_M_open : Nat := 85
abbrev mi_M_begin : Nat := 86
abbrev mi_M_left : Nat := 87
abbrev mi_M_dropped : Nat := 88
abbrev mi_W_law : Nat := 89
abbrev mi_W_cycle : Nat := 90
def am_mis : List (MethodName × ByteArray × Nat × Option FieldType) := [(Lib.objectInit, ⟨#[0xb1]⟩, 1, none),
  (⟨"EthernetGates", "<init>", "(I)V"⟩, prog_1_method_1_code, 4, none),
  (⟨"EthernetGates$Port", "<init>", "(I)V"⟩, prog_4_method_1_code, 3, none),
  (⟨"EthernetGates$PortRank", "<init>", "()V"⟩, prog_5_method_1_code, 1, none),
  (⟨"java/util/ArrayList", "<init>", "()V"⟩, prog_21_method_2_code, 1, none),
  (⟨"java/util/AbstractList", "<init>", "()V"⟩, prog_20_method_1_code, 1, none),
  (⟨"java/util/AbstractCollection", "<init>", "()V"⟩, prog_19_method_1_code, 1, none),
  (⟨"EthernetGates", "link", "(IJ)I"⟩, prog_1_method_2_code, 6, (some FieldType.int)),
  (⟨"EthernetGates", "findPort", "(I)LEthernetGates$Port;"⟩, prog_1_method_15_code, 2, (some (FieldType.object "EthernetGates$Port"))),
  (⟨"EthernetGates$Port", "isSending", "()Z"⟩, prog_4_method_2_code, 1, (some FieldType.boolean)),
  (⟨"EthernetGates$Port", "loseFrames", "()I"⟩, prog_4_method_4_code, 3, (some FieldType.int)),
  (⟨"EthernetGates", "gate", "(IIJJ)I"⟩, prog_1_method_3_code, 9, (some FieldType.int)),
  (⟨"EthernetGates", "isRank", "(I)Z"⟩, prog_1_method_17_code, 1, (some FieldType.boolean)),
  (⟨"EthernetGates$PortRank", "addWindow", "(JJ)Z"⟩, prog_5_method_5_code, 5, (some FieldType.boolean)),
  (⟨"EthernetGates", "frame", "(IIII)I"⟩, prog_1_method_5_code, 7, (some FieldType.int)),
  (⟨"EthernetGates", "isAddress", "(I)Z"⟩, prog_1_method_18_code, 1, (some FieldType.boolean)),
  (⟨"EthernetGates", "addressOf", "(I)LEthernetGates$Address;"⟩, prog_1_method_16_code, 3, (some (FieldType.object "EthernetGates$Address"))),
  (⟨"EthernetGates$Address", "<init>", "()V"⟩, prog_2_method_1_code, 2, none),
  (⟨"EthernetGates$Stream", "<init>", "()V"⟩, prog_6_method_1_code, 1, none),
  (⟨"EthernetGates$Stream", "takesOne", "(J)Z"⟩, prog_6_method_3_code, 4, (some FieldType.boolean)),
  (⟨"EthernetGates$Stream", "takenAt", "(J)I"⟩, prog_6_method_2_code, 3, (some FieldType.int)),
  (⟨"EthernetGates$Address", "portAt", "(J)I"⟩, prog_2_method_3_code, 3, (some FieldType.int)),
  (⟨"EthernetGates$Address", "isFixed", "()Z"⟩, prog_2_method_2_code, 1, (some FieldType.boolean)),
  (⟨"EthernetGates", "queueCopies", "(LEthernetGates$Port;III)I"⟩, prog_1_method_20_code, 9, (some FieldType.int)),
  (⟨"EthernetGates$Port", "queue", "(III)Z"⟩, prog_4_method_3_code, 4, (some FieldType.boolean)),
  (⟨"EthernetGates$PortRank", "add", "(II)Z"⟩, prog_5_method_2_code, 4, (some FieldType.boolean)),
  (⟨"EthernetGates", "run", "(J)I"⟩, prog_1_method_6_code, 9, (some FieldType.int)),
  (⟨"EthernetGates", "endSendings", "()V"⟩, prog_1_method_21_code, 3, none),
  (⟨"java/util/ArrayList", "size", "()I"⟩, prog_21_method_8_code, 1, (some FieldType.int)),
  (⟨"EthernetGates$Departure", "<init>", "(IIJJ)V"⟩, prog_3_method_1_code, 7, none),
  (⟨"java/util/ArrayList", "add", "(Ljava/lang/Object;)Z"⟩, prog_21_method_25_code, 2, (some FieldType.boolean)),
  (⟨"java/util/ArrayList", "add", "(Ljava/lang/Object;[Ljava/lang/Object;I)V"⟩, prog_21_method_24_code, 4, none),
  (⟨"java/util/ArrayList", "grow", "()[Ljava/lang/Object;"⟩, prog_21_method_7_code, 1, (some (FieldType.array (FieldType.object "java/lang/Object")))),
  (⟨"java/util/ArrayList", "grow", "(I)[Ljava/lang/Object;"⟩, prog_21_method_6_code, 4, (some (FieldType.array (FieldType.object "java/lang/Object")))),
  (⟨"jdk/internal/util/ArraysSupport", "newLength", "(III)I"⟩, prog_28_method_27_code, 4, (some FieldType.int)),
  (⟨"jdk/internal/util/ArraysSupport", "hugeLength", "(II)I"⟩, prog_28_method_28_code, 3, (some FieldType.int)),
  (⟨"java/util/Arrays", "copyOf", "([Ljava/lang/Object;I)[Ljava/lang/Object;"⟩, prog_22_method_119_code, 2, (some (FieldType.array (FieldType.object "java/lang/Object")))),
  (⟨"EthernetGates", "beginSendings", "()V"⟩, prog_1_method_22_code, 2, none),
  (⟨"EthernetGates$Port", "beginNext", "(JJ)V"⟩, prog_4_method_5_code, 11, none),
  (⟨"EthernetGates$PortRank", "firstBits", "()I"⟩, prog_5_method_4_code, 1, (some FieldType.int)),
  (⟨"EthernetGates$PortRank", "letsBegin", "(JJ)Z"⟩, prog_5_method_8_code, 5, (some FieldType.boolean)),
  (⟨"EthernetGates$PortRank", "isShaped", "()Z"⟩, prog_5_method_6_code, 1, (some FieldType.boolean)),
  (⟨"EthernetGates$PortRank", "isOpenFor", "(JJ)Z"⟩, prog_5_method_9_code, 6, (some FieldType.boolean)),
  (⟨"EthernetGates$PortRank", "removeFirst", "()I"⟩, prog_5_method_3_code, 2, (some FieldType.int)),
  (⟨"EthernetGates", "ticksUntilChange", "()J"⟩, prog_1_method_23_code, 4, (some FieldType.long)),
  (⟨"EthernetGates$Port", "ticksUntilChange", "(J)J"⟩, prog_4_method_6_code, 3, (some FieldType.long)),
  (⟨"EthernetGates", "moveCredits", "(J)V"⟩, prog_1_method_24_code, 4, none),
  (⟨"EthernetGates$Port", "moveCredits", "(J)V"⟩, prog_4_method_7_code, 5, none),
  (⟨"EthernetGates$PortRank", "moveCredit", "(JJ)V"⟩, prog_5_method_10_code, 5, none),
  (⟨"EthernetGates", "left", "(II)I"⟩, prog_1_method_7_code, 4, (some FieldType.int)),
  (⟨"java/util/ArrayList", "get", "(I)Ljava/lang/Object;"⟩, prog_21_method_20_code, 2, (some (FieldType.object "java/lang/Object"))),
  (⟨"java/util/Objects", "checkIndex", "(II)I"⟩, prog_25_method_17_code, 2, (some FieldType.int)),
  (⟨"jdk/internal/util/Preconditions", "checkIndex", "(IILjava/util/function/BiFunction;)I"⟩, prog_29_method_11_code, 3, (some FieldType.int)),
  (⟨"java/util/ArrayList", "elementData", "(I)Ljava/lang/Object;"⟩, prog_21_method_18_code, 2, (some (FieldType.object "java/lang/Object"))),
  (⟨"EthernetGates", "learn", "(IIJ)I"⟩, prog_1_method_8_code, 7, (some FieldType.int)),
  (⟨"EthernetGates", "credit", "(IIJJ)I"⟩, prog_1_method_9_code, 8, (some FieldType.int)),
  (⟨"EthernetGates$PortRank", "shape", "(JJ)V"⟩, prog_5_method_7_code, 5, none),
  (⟨"EthernetGates", "filter", "(IJ)I"⟩, prog_1_method_10_code, 6, (some FieldType.int)),
  (⟨"EthernetGates", "clock", "(IJ)I"⟩, prog_1_method_11_code, 7, (some FieldType.int)),
  (⟨"EthernetGates", "dropped", "(I)I"⟩, prog_1_method_12_code, 2, (some FieldType.int)),
  (⟨"EthernetGates", "service", "(II)I"⟩, prog_1_method_13_code, 3, (some FieldType.int)),
  (⟨"EthernetGates", "offererOf", "(I)I"⟩, prog_1_method_14_code, 2, (some FieldType.int)),
  (⟨"EthernetGates", "isService", "(I)Z"⟩, prog_1_method_19_code, 1, (some FieldType.boolean)),
  (⟨"EthernetGatesLaw", "cell", "([II)I"⟩, method_2_code, 2, (some FieldType.int)),
  (⟨"EthernetGates", "cycle", "(J)I"⟩, prog_1_method_4_code, 3, (some FieldType.int)),
  (⟨"EthernetGatesModel", "<init>", "(I)V"⟩, prog_8_method_1_code, 2, none),
  (⟨"EthernetGatesModel", "thrown", "()I"⟩, prog_8_method_2_code, 1, (some FieldType.int)),
  (⟨"EthernetGatesModel", "link", "(IJ)I"⟩, prog_8_method_5_code, 6, (some FieldType.int)),
  (⟨"EthernetGatesModel", "none", "(I)Z"⟩, prog_8_method_3_code, 2, (some FieldType.boolean)),
  (⟨"EthernetGatesModel", "gate", "(IIJJ)I"⟩, prog_8_method_6_code, 8, (some FieldType.int)),
  (⟨"EthernetGatesModel", "noRank", "(II)Z"⟩, prog_8_method_4_code, 3, (some FieldType.boolean)),
  (⟨"EthernetGatesModel", "cycle", "(J)I"⟩, prog_8_method_7_code, 5, (some FieldType.int)),
  (⟨"EthernetGatesModel", "learn", "(IIJ)I"⟩, prog_8_method_9_code, 6, (some FieldType.int)),
  (⟨"EthernetGatesModel", "isAt", "(I)Z"⟩, prog_8_method_8_code, 2, (some FieldType.boolean)),
  (⟨"EthernetGatesModel", "credit", "(IIJJ)I"⟩, prog_8_method_10_code, 7, (some FieldType.int)),
  (⟨"EthernetGatesModel", "filter", "(IJ)I"⟩, prog_8_method_12_code, 4, (some FieldType.int)),
  (⟨"EthernetGatesModel", "look", "(I)V"⟩, prog_8_method_11_code, 2, none),
  (⟨"EthernetGatesModel", "clock", "(IJ)I"⟩, prog_8_method_13_code, 4, (some FieldType.int)),
  (⟨"EthernetGatesModel", "service", "(II)I"⟩, prog_8_method_14_code, 3, (some FieldType.int)),
  (⟨"EthernetGatesModel", "frame", "(IIII)I"⟩, prog_8_method_16_code, 10, (some FieldType.int)),
  (⟨"EthernetGatesModel", "enter", "(III)I"⟩, prog_8_method_15_code, 5, (some FieldType.int)),
  (⟨"EthernetGatesModel", "run", "(J)I"⟩, prog_8_method_22_code, 6, (some FieldType.int)),
  (⟨"EthernetGatesModel", "tick", "()V"⟩, prog_8_method_21_code, 3, none),
  (⟨"EthernetGatesModel", "may", "(II)Z"⟩, prog_8_method_19_code, 5, (some FieldType.boolean)),
  (⟨"EthernetGatesModel", "time", "(II)J"⟩, prog_8_method_17_code, 5, (some FieldType.long)),
  (⟨"EthernetGatesModel", "open", "(IJJ)Z"⟩, prog_8_method_18_code, 8, (some FieldType.boolean)),
  (⟨"EthernetGatesModel", "begin", "(II)V"⟩, prog_8_method_20_code, 5, none),
  (⟨"EthernetGatesModel", "left", "(II)I"⟩, prog_8_method_23_code, 3, (some FieldType.int)),
  (⟨"EthernetGatesModel", "dropped", "(I)I"⟩, prog_8_method_24_code, 2, (some FieldType.int)),
  (⟨"EthernetGatesLaw", "law", "([I)Z"⟩, code, 7, (some FieldType.boolean)),
  (⟨"EthernetGatesLaw", "cycle", "(LEthernetGates;J[J)I"⟩, method_3_code, 5, (some FieldType.int))]
def am_mi (x : Nat) : Option (MethodName × ByteArray × Nat × Option FieldType) := am_mis[x]?
def am_ml (x : Nat) : Nat := [1, 4, 3, 1, 1, 1, 1, 6, 2, 1, 3, 9, 1, 5, 7, 1, 3, 2, 1, 4, 3, 3, 1, 9, 4, 4, 9, 3, 1, 7, 2, 4, 1, 4, 4, 3, 2, 2, 11, 1, 5, 1, 6, 2, 4, 3, 4, 5, 5, 4, 2, 2, 3, 2, 7, 8, 5, 6, 7, 2, 3, 2, 1, 2, 3, 2, 1, 6, 2, 8, 3, 5, 6, 2, 7, 4, 2, 4, 3, 10, 5, 6, 3, 5, 5, 8, 5, 3, 2, 7, 5].getD x 0
def am_mok : List Nat := [1, 2, 3, 4, 5, 6, 7, 8, 9, 10, 11, 12, 13, 14, 15, 16, 17, 18, 19, 20, 21, 22, 23, 24, 25, 26, 27, 28, 29, 30, 31, 32, 33, 34, 35, 36, 37, 38, 39, 40, 41, 42, 43, 44, 45, 46, 47, 48, 49, 50, 51, 52, 53, 54, 55, 56, 57, 58, 59, 60, 61, 62, 63, 64, 65, 66, 67, 68, 69, 70, 71, 72, 73, 74, 75, 76, 77, 78, 79, 80, 81, 82, 83, 84, 85, 86, 87, 88]
def am_mov : List Nat := [7, 8, 9, 10, 11, 13, 14, 16, 19, 20, 21, 22, 23, 24, 25, 26, 27, 28, 30, 31, 32, 33, 37, 38, 39, 40, 41, 42, 43, 44, 45, 46, 47, 48, 49, 50, 53, 54, 55, 56, 57, 58, 59, 60, 61, 64, 66, 67, 68, 69, 70, 71, 72, 73, 74, 75, 76, 77, 78, 79, 80, 81, 82, 83, 84, 85, 86, 87, 88]
def am_moi : List Nat := [1, 2, 3, 4, 5, 6, 17, 18, 29, 65]
def am_mos : List Nat := [12, 15, 34, 35, 36, 51, 52, 62, 63]
def am_asl : List (Nat × Nat) := [(0, 1), (1, 2), (2, 3), (3, 4), (4, 0), (4, 1), (4, 2), (4, 3), (4, 4), (4, 5), (4, 7)]
def am_asg (j c : Nat) : Bool := am_asl.contains (j, c)
