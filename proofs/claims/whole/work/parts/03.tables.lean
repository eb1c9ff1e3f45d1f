/-! ===== the groups of cells, by program (wip/whole/gen/tables.py): own objects 1 to 11, constants 12 to 14, arrays id + 256 * kind + 2048 * length ===== -/
def T_1 : u_T := fun k => match k with
  | 0 => ("StaticKernel", "tape", "[C", true)
  | 1 => ("StaticKernel", "tapeLength", "I", false)
  | 2 => ("StaticKernel", "tokens", "LStaticKernel$Tokens;", true)
  | 3 => ("StaticKernel", "outline", "LStaticKernel$Outline;", true)
  | 4 => ("StaticKernel", "faults", "LStaticKernel$Faults;", true)
  | 5 => ("StaticKernel", "plan", "LStaticKernel$Plan;", true)
  | _ => ("StaticKernel", "machine", "LStaticKernel$Machine;", true)
def Y_1 : Nat → FieldType := fun k => match k with
  | 0 => .array .char
  | 1 => .int
  | 2 => .object "StaticKernel$Tokens"
  | 3 => .object "StaticKernel$Outline"
  | 4 => .object "StaticKernel$Faults"
  | 5 => .object "StaticKernel$Plan"
  | _ => .object "StaticKernel$Machine"
def T_2 : u_T := fun k => match k with
  | 0 => ("StaticKernel$Tokens", "kind", "[LStaticKernel$Kind;", true)
  | 1 => ("StaticKernel$Tokens", "place", "[I", true)
  | 2 => ("StaticKernel$Tokens", "value", "[I", true)
  | 3 => ("StaticKernel$Tokens", "high", "[J", true)
  | 4 => ("StaticKernel$Tokens", "low", "[J", true)
  | _ => ("StaticKernel$Tokens", "size", "I", false)
def Y_2 : Nat → FieldType := fun k => match k with
  | 0 => .array (.object "StaticKernel$Kind")
  | 1 => .array .int
  | 2 => .array .int
  | 3 => .array .long
  | 4 => .array .long
  | _ => .int
def T_3 : u_T := fun k => match k with
  | 0 => ("StaticKernel$Outline", "tokens", "LStaticKernel$Tokens;", true)
  | 1 => ("StaticKernel$Outline", "role", "[LStaticKernel$Role;", true)
  | 2 => ("StaticKernel$Outline", "owner", "[I", true)
  | 3 => ("StaticKernel$Outline", "means", "[I", true)
  | 4 => ("StaticKernel$Outline", "sort", "[I", true)
  | 5 => ("StaticKernel$Outline", "number", "[I", true)
  | 6 => ("StaticKernel$Outline", "nameAt", "[I", true)
  | 7 => ("StaticKernel$Outline", "end", "[I", true)
  | 8 => ("StaticKernel$Outline", "told", "[I", true)
  | 9 => ("StaticKernel$Outline", "items", "I", false)
  | _ => ("StaticKernel$Outline", "next", "I", false)
def Y_3 : Nat → FieldType := fun k => match k with
  | 0 => .object "StaticKernel$Tokens"
  | 1 => .array (.object "StaticKernel$Role")
  | 2 => .array .int
  | 3 => .array .int
  | 4 => .array .int
  | 5 => .array .int
  | 6 => .array .int
  | 7 => .array .int
  | 8 => .array .int
  | 9 => .int
  | _ => .int
def T_4 : u_T := fun k => match k with
  | 0 => ("StaticKernel$Faults", "outline", "LStaticKernel$Outline;", true)
  | 1 => ("StaticKernel$Faults", "tokens", "LStaticKernel$Tokens;", true)
  | 2 => ("StaticKernel$Faults", "kind", "I", false)
  | _ => ("StaticKernel$Faults", "place", "I", false)
def Y_4 : Nat → FieldType := fun k => match k with
  | 0 => .object "StaticKernel$Outline"
  | 1 => .object "StaticKernel$Tokens"
  | 2 => .int
  | _ => .int
def T_5 : u_T := fun k => match k with
  | 0 => ("StaticKernel$Plan", "told", "[I", true)
  | 1 => ("StaticKernel$Plan", "nameHigh", "[[J", true)
  | 2 => ("StaticKernel$Plan", "nameLow", "[[J", true)
  | 3 => ("StaticKernel$Plan", "tasks", "[LStaticKernel$Worker;", true)
  | 4 => ("StaticKernel$Plan", "isrs", "[LStaticKernel$Worker;", true)
  | 5 => ("StaticKernel$Plan", "counters", "[LStaticKernel$Counter;", true)
  | 6 => ("StaticKernel$Plan", "alarms", "[LStaticKernel$Alarm;", true)
  | 7 => ("StaticKernel$Plan", "ceiling", "[I", true)
  | 8 => ("StaticKernel$Plan", "leastOfGroup", "[I", true)
  | 9 => ("StaticKernel$Plan", "internal", "[Z", true)
  | _ => ("StaticKernel$Plan", "as", "[I", true)
def Y_5 : Nat → FieldType := fun k => match k with
  | 0 => .array .int
  | 1 => .array (.array .long)
  | 2 => .array (.array .long)
  | 3 => .array (.object "StaticKernel$Worker")
  | 4 => .array (.object "StaticKernel$Worker")
  | 5 => .array (.object "StaticKernel$Counter")
  | 6 => .array (.object "StaticKernel$Alarm")
  | 7 => .array .int
  | 8 => .array .int
  | 9 => .array .boolean
  | _ => .array .int
def T_6 : u_T := fun k => match k with
  | 0 => ("StaticKernel$Machine", "plan", "LStaticKernel$Plan;", true)
  | 1 => ("StaticKernel$Machine", "rows", "LStaticKernel$Rows;", true)
  | 2 => ("StaticKernel$Machine", "on", "Z", false)
  | 3 => ("StaticKernel$Machine", "mode", "I", false)
  | 4 => ("StaticKernel$Machine", "shutDepth", "I", false)
  | 5 => ("StaticKernel$Machine", "current", "I", false)
  | 6 => ("StaticKernel$Machine", "begun", "[I", true)
  | 7 => ("StaticKernel$Machine", "begunCount", "I", false)
  | 8 => ("StaticKernel$Machine", "notes", "[I", true)
  | 9 => ("StaticKernel$Machine", "noted", "I", false)
  | 10 => ("StaticKernel$Machine", "unsettled", "I", false)
  | 11 => ("StaticKernel$Machine", "doubleHad", "I", false)
  | _ => ("StaticKernel$Machine", "nobody", "LStaticKernel$Worker;", true)
def Y_6 : Nat → FieldType := fun k => match k with
  | 0 => .object "StaticKernel$Plan"
  | 1 => .object "StaticKernel$Rows"
  | 2 => .boolean
  | 3 => .int
  | 4 => .int
  | 5 => .int
  | 6 => .array .int
  | 7 => .int
  | 8 => .array .int
  | 9 => .int
  | 10 => .int
  | 11 => .int
  | _ => .object "StaticKernel$Worker"
def T_7 : u_T := fun k => match k with
  | 0 => ("StaticKernel$Rows", "rowOf", "[I", true)
  | 1 => ("StaticKernel$Rows", "taskOf", "[I", true)
  | _ => ("StaticKernel$Rows", "size", "I", false)
def Y_7 : Nat → FieldType := fun k => match k with
  | 0 => .array .int
  | 1 => .array .int
  | _ => .int
def T_8 : u_T := fun k => match k with
  | 0 => ("StaticKernel$Worker", "priority", "I", false)
  | 1 => ("StaticKernel$Worker", "whole", "Z", false)
  | 2 => ("StaticKernel$Worker", "limit", "I", false)
  | 3 => ("StaticKernel$Worker", "events", "I", false)
  | 4 => ("StaticKernel$Worker", "modes", "I", false)
  | 5 => ("StaticKernel$Worker", "uses", "I", false)
  | 6 => ("StaticKernel$Worker", "internal", "I", false)
  | 7 => ("StaticKernel$Worker", "requests", "I", false)
  | 8 => ("StaticKernel$Worker", "waits", "Z", false)
  | 9 => ("StaticKernel$Worker", "waitsFor", "I", false)
  | 10 => ("StaticKernel$Worker", "set", "I", false)
  | 11 => ("StaticKernel$Worker", "hasInternal", "Z", false)
  | 12 => ("StaticKernel$Worker", "called", "Z", false)
  | 13 => ("StaticKernel$Worker", "held", "[I", true)
  | _ => ("StaticKernel$Worker", "heldCount", "I", false)
def Y_8 : Nat → FieldType := fun k => match k with
  | 0 => .int
  | 1 => .boolean
  | 2 => .int
  | 3 => .int
  | 4 => .int
  | 5 => .int
  | 6 => .int
  | 7 => .int
  | 8 => .boolean
  | 9 => .int
  | 10 => .int
  | 11 => .boolean
  | 12 => .boolean
  | 13 => .array .int
  | _ => .int
def T_9 : u_T := fun k => match k with
  | 0 => ("StaticKernel$Counter", "max", "I", false)
  | 1 => ("StaticKernel$Counter", "base", "I", false)
  | 2 => ("StaticKernel$Counter", "least", "I", false)
  | 3 => ("StaticKernel$Counter", "value", "I", false)
  | 4 => ("StaticKernel$Counter", "ticks", "I", false)
  | _ => ("StaticKernel$Counter", "waiting", "I", false)
def Y_9 : Nat → FieldType := fun k => match k with
  | 0 => .int
  | 1 => .int
  | 2 => .int
  | 3 => .int
  | 4 => .int
  | _ => .int
def T_10 : u_T := fun k => match k with
  | 0 => ("StaticKernel$Alarm", "counter", "I", false)
  | 1 => ("StaticKernel$Alarm", "task", "I", false)
  | 2 => ("StaticKernel$Alarm", "event", "I", false)
  | 3 => ("StaticKernel$Alarm", "modes", "I", false)
  | 4 => ("StaticKernel$Alarm", "autoIn", "I", false)
  | 5 => ("StaticKernel$Alarm", "autoEvery", "I", false)
  | 6 => ("StaticKernel$Alarm", "inUse", "Z", false)
  | 7 => ("StaticKernel$Alarm", "due", "I", false)
  | _ => ("StaticKernel$Alarm", "every", "I", false)
def Y_10 : Nat → FieldType := fun k => match k with
  | 0 => .int
  | 1 => .int
  | 2 => .int
  | 3 => .int
  | 4 => .int
  | 5 => .int
  | 6 => .boolean
  | 7 => .int
  | _ => .int
def T_11 : u_T := fun k => match k with
  | 0 => ("StaticKernelModel", "thrown", "I", false)
  | 1 => ("StaticKernelModel", "tape", "[B", true)
  | 2 => ("StaticKernelModel", "taped", "I", false)
  | 3 => ("StaticKernelModel", "words", "Ljava/lang/String;", true)
  | 4 => ("StaticKernelModel", "text", "[B", true)
  | 5 => ("StaticKernelModel", "length", "I", false)
  | 6 => ("StaticKernelModel", "kind", "[I", true)
  | 7 => ("StaticKernelModel", "place", "[I", true)
  | 8 => ("StaticKernelModel", "size", "[I", true)
  | 9 => ("StaticKernelModel", "value", "[I", true)
  | 10 => ("StaticKernelModel", "tokens", "I", false)
  | 11 => ("StaticKernelModel", "faultKind", "I", false)
  | 12 => ("StaticKernelModel", "faultPlace", "I", false)
  | 13 => ("StaticKernelModel", "toldKind", "I", false)
  | 14 => ("StaticKernelModel", "toldPlace", "I", false)
  | 15 => ("StaticKernelModel", "itemSort", "[I", true)
  | 16 => ("StaticKernelModel", "itemName", "[I", true)
  | 17 => ("StaticKernelModel", "itemEnd", "[I", true)
  | 18 => ("StaticKernelModel", "itemNumber", "[I", true)
  | 19 => ("StaticKernelModel", "items", "I", false)
  | 20 => ("StaticKernelModel", "told", "[I", true)
  | 21 => ("StaticKernelModel", "walk", "I", false)
  | 22 => ("StaticKernelModel", "now", "I", false)
  | 23 => ("StaticKernelModel", "planText", "[B", true)
  | 24 => ("StaticKernelModel", "many", "[I", true)
  | 25 => ("StaticKernelModel", "nameAt", "[I", true)
  | 26 => ("StaticKernelModel", "nameSize", "[I", true)
  | 27 => ("StaticKernelModel", "internal", "[Z", true)
  | 28 => ("StaticKernelModel", "group", "[I", true)
  | 29 => ("StaticKernelModel", "ceiling", "[I", true)
  | 30 => ("StaticKernelModel", "max", "[I", true)
  | 31 => ("StaticKernelModel", "base", "[I", true)
  | 32 => ("StaticKernelModel", "least", "[I", true)
  | 33 => ("StaticKernelModel", "priority", "[I", true)
  | 34 => ("StaticKernelModel", "whole", "[Z", true)
  | 35 => ("StaticKernelModel", "limit", "[I", true)
  | 36 => ("StaticKernelModel", "events", "[I", true)
  | 37 => ("StaticKernelModel", "taskModes", "[I", true)
  | 38 => ("StaticKernelModel", "taskUses", "[I", true)
  | 39 => ("StaticKernelModel", "level", "[I", true)
  | 40 => ("StaticKernelModel", "isrUses", "[I", true)
  | 41 => ("StaticKernelModel", "counterOf", "[I", true)
  | 42 => ("StaticKernelModel", "action", "[I", true)
  | 43 => ("StaticKernelModel", "target", "[I", true)
  | 44 => ("StaticKernelModel", "eventOf", "[I", true)
  | 45 => ("StaticKernelModel", "alarmModes", "[I", true)
  | 46 => ("StaticKernelModel", "autoIn", "[I", true)
  | 47 => ("StaticKernelModel", "autoEvery", "[I", true)
  | 48 => ("StaticKernelModel", "bits", "I", false)
  | 49 => ("StaticKernelModel", "links", "[I", true)
  | 50 => ("StaticKernelModel", "on", "Z", false)
  | 51 => ("StaticKernelModel", "mode", "I", false)
  | 52 => ("StaticKernelModel", "shut", "I", false)
  | 53 => ("StaticKernelModel", "taskOf", "[I", true)
  | 54 => ("StaticKernelModel", "state", "[I", true)
  | 55 => ("StaticKernelModel", "rowOf", "[I", true)
  | 56 => ("StaticKernelModel", "key", "[J", true)
  | 57 => ("StaticKernelModel", "awaited", "[I", true)
  | 58 => ("StaticKernelModel", "serial", "J", false)
  | 59 => ("StaticKernelModel", "set", "[I", true)
  | 60 => ("StaticKernelModel", "haver", "[I", true)
  | 61 => ("StaticKernelModel", "since", "[J", true)
  | 62 => ("StaticKernelModel", "hasInternal", "[Z", true)
  | 63 => ("StaticKernelModel", "called", "[Z", true)
  | 64 => ("StaticKernelModel", "begun", "[I", true)
  | 65 => ("StaticKernelModel", "depth", "I", false)
  | 66 => ("StaticKernelModel", "counted", "[I", true)
  | 67 => ("StaticKernelModel", "ticks", "[I", true)
  | 68 => ("StaticKernelModel", "waiting", "[I", true)
  | 69 => ("StaticKernelModel", "inUse", "[Z", true)
  | 70 => ("StaticKernelModel", "due", "[I", true)
  | 71 => ("StaticKernelModel", "every", "[I", true)
  | 72 => ("StaticKernelModel", "note", "[I", true)
  | 73 => ("StaticKernelModel", "notes", "I", false)
  | 74 => ("StaticKernelModel", "badTops", "I", false)
  | _ => ("StaticKernelModel", "badHavers", "I", false)
def Y_11 : Nat → FieldType := fun k => match k with
  | 0 => .int
  | 1 => .array .byte
  | 2 => .int
  | 3 => .object "java/lang/String"
  | 4 => .array .byte
  | 5 => .int
  | 6 => .array .int
  | 7 => .array .int
  | 8 => .array .int
  | 9 => .array .int
  | 10 => .int
  | 11 => .int
  | 12 => .int
  | 13 => .int
  | 14 => .int
  | 15 => .array .int
  | 16 => .array .int
  | 17 => .array .int
  | 18 => .array .int
  | 19 => .int
  | 20 => .array .int
  | 21 => .int
  | 22 => .int
  | 23 => .array .byte
  | 24 => .array .int
  | 25 => .array .int
  | 26 => .array .int
  | 27 => .array .boolean
  | 28 => .array .int
  | 29 => .array .int
  | 30 => .array .int
  | 31 => .array .int
  | 32 => .array .int
  | 33 => .array .int
  | 34 => .array .boolean
  | 35 => .array .int
  | 36 => .array .int
  | 37 => .array .int
  | 38 => .array .int
  | 39 => .array .int
  | 40 => .array .int
  | 41 => .array .int
  | 42 => .array .int
  | 43 => .array .int
  | 44 => .array .int
  | 45 => .array .int
  | 46 => .array .int
  | 47 => .array .int
  | 48 => .int
  | 49 => .array .int
  | 50 => .boolean
  | 51 => .int
  | 52 => .int
  | 53 => .array .int
  | 54 => .array .int
  | 55 => .array .int
  | 56 => .array .long
  | 57 => .array .int
  | 58 => .long
  | 59 => .array .int
  | 60 => .array .int
  | 61 => .array .long
  | 62 => .array .boolean
  | 63 => .array .boolean
  | 64 => .array .int
  | 65 => .int
  | 66 => .array .int
  | 67 => .array .int
  | 68 => .array .int
  | 69 => .array .boolean
  | 70 => .array .int
  | 71 => .array .int
  | 72 => .array .int
  | 73 => .int
  | 74 => .int
  | _ => .int
def oC : Nat → String := fun g => match g with
  | 1 => "StaticKernel"
  | 2 => "StaticKernel$Tokens"
  | 3 => "StaticKernel$Outline"
  | 4 => "StaticKernel$Faults"
  | 5 => "StaticKernel$Plan"
  | 6 => "StaticKernel$Machine"
  | 7 => "StaticKernel$Rows"
  | 8 => "StaticKernel$Worker"
  | 9 => "StaticKernel$Counter"
  | 10 => "StaticKernel$Alarm"
  | 11 => "StaticKernelModel"
  | _ => ""
def oT : Nat → u_T := fun g => match g with
  | 1 => T_1
  | 2 => T_2
  | 3 => T_3
  | 4 => T_4
  | 5 => T_5
  | 6 => T_6
  | 7 => T_7
  | 8 => T_8
  | 9 => T_9
  | 10 => T_10
  | 11 => T_11
  | _ => T_1
def oY : Nat → Nat → FieldType := fun g => match g with
  | 1 => Y_1
  | 2 => Y_2
  | 3 => Y_3
  | 4 => Y_4
  | 5 => Y_5
  | 6 => Y_6
  | 7 => Y_7
  | 8 => Y_8
  | 9 => Y_9
  | 10 => Y_10
  | 11 => Y_11
  | _ => Y_1
def oN : Nat → Nat := fun g => match g with
  | 1 => 7
  | 2 => 6
  | 3 => 11
  | 4 => 4
  | 5 => 11
  | 6 => 13
  | 7 => 3
  | 8 => 15
  | 9 => 6
  | 10 => 9
  | 11 => 76
  | _ => 0
def R_1 : Nat → Nat × Int := fun k => match k with
  | 0 => (8193300, 0)
  | 2 => (2, 0)
  | 3 => (3, 0)
  | 4 => (4, 0)
  | 5 => (5, 0)
  | 6 => (6, 0)
  | _ => (0, 0)
def R_2 : Nat → Nat × Int := fun k => match k with
  | 0 => (8194837, 0)
  | 1 => (8194070, 0)
  | 2 => (8194071, 0)
  | 3 => (8194584, 0)
  | 4 => (8194585, 0)
  | _ => (0, 0)
def R_3 : Nat → Nat × Int := fun k => match k with
  | 0 => (2, 0)
  | 1 => (8194842, 0)
  | 2 => (8194075, 0)
  | 3 => (8194076, 0)
  | 4 => (1366045, 0)
  | 5 => (1366046, 0)
  | 6 => (1366047, 0)
  | 7 => (1366048, 0)
  | 8 => (14369, 0)
  | _ => (0, 0)
def R_4 : Nat → Nat × Int := fun k => match k with
  | 0 => (3, 0)
  | 1 => (2, 0)
  | _ => (0, 0)
def R_5 : Nat → Nat × Int := fun k => match k with
  | 0 => (14370, 0)
  | 1 => (15139, 0)
  | 2 => (15141, 0)
  | 3 => (99111, 0)
  | 4 => (33576, 0)
  | 5 => (33577, 0)
  | 6 => (99114, 0)
  | 7 => (65579, 0)
  | 8 => (65580, 0)
  | 9 => (65837, 0)
  | 10 => (65582, 0)
  | _ => (0, 0)
def R_6 : Nat → Nat × Int := fun k => match k with
  | 0 => (5, 0)
  | 1 => (7, 0)
  | 6 => (32815, 0)
  | 8 => (1024048, 0)
  | 12 => (8, 64)
  | _ => (0, 0)
def R_7 : Nat → Nat × Int := fun k => match k with
  | 0 => (786481, 0)
  | 1 => (786482, 0)
  | _ => (0, 0)
def R_8 : Nat → Nat × Int := fun k => match k with
  | 13 => (65587, 0)
  | _ => (0, 0)
def R_9 : Nat → Nat × Int := fun k => match k with
  | _ => (0, 0)
def R_10 : Nat → Nat × Int := fun k => match k with
  | _ => (0, 0)
def R_11 : Nat → Nat × Int := fun k => match k with
  | 1 => (8193084, 0)
  | 3 => (14, 0)
  | 4 => (8193085, 0)
  | 6 => (8194110, 0)
  | 7 => (8194111, 0)
  | 8 => (8194112, 0)
  | 9 => (8194113, 0)
  | 15 => (1433666, 0)
  | 16 => (1433667, 0)
  | 17 => (1433668, 0)
  | 18 => (1433669, 0)
  | 20 => (14406, 0)
  | 23 => (8193095, 0)
  | 24 => (14408, 0)
  | 25 => (917577, 0)
  | 26 => (917578, 0)
  | 27 => (65867, 0)
  | 28 => (65612, 0)
  | 29 => (65613, 0)
  | 30 => (32846, 0)
  | 31 => (32847, 0)
  | 32 => (32848, 0)
  | 33 => (98385, 0)
  | 34 => (98642, 0)
  | 35 => (98387, 0)
  | 36 => (98388, 0)
  | 37 => (98389, 0)
  | 38 => (98390, 0)
  | 39 => (32855, 0)
  | 40 => (32856, 0)
  | 41 => (98393, 0)
  | 42 => (98394, 0)
  | 43 => (98395, 0)
  | 44 => (98396, 0)
  | 45 => (98397, 0)
  | 46 => (98398, 0)
  | 47 => (98399, 0)
  | 49 => (65632, 0)
  | 53 => (819297, 0)
  | 54 => (819298, 0)
  | 55 => (819299, 0)
  | 56 => (819812, 0)
  | 57 => (819301, 0)
  | 59 => (98406, 0)
  | 60 => (65639, 0)
  | 61 => (66152, 0)
  | 62 => (819561, 0)
  | 63 => (33130, 0)
  | 64 => (32875, 0)
  | 66 => (32876, 0)
  | 67 => (32877, 0)
  | 68 => (32878, 0)
  | 69 => (98671, 0)
  | 70 => (98416, 0)
  | 71 => (98417, 0)
  | 72 => (1024114, 0)
  | _ => (0, 0)
/-- the group that a reference field leads to, and what is added to the member -/
def fR : Nat → Nat → Nat × Int := fun g => match g with
  | 1 => R_1
  | 2 => R_2
  | 3 => R_3
  | 4 => R_4
  | 5 => R_5
  | 6 => R_6
  | 7 => R_7
  | 8 => R_8
  | 9 => R_9
  | 10 => R_10
  | 11 => R_11
  | _ => R_1
def gOwn : List Nat := [8193300, 8194837, 8194070, 8194071, 8194584, 8194585, 8194842, 8194075, 8194076, 1366045, 1366046, 1366047, 1366048, 14369, 14370, 15139, 98852, 15141, 98854, 99111, 33576, 33577, 99114, 65579, 65580, 65837, 65582, 32815, 1024048, 786481, 786482, 65587, 8193084, 8193085, 8194110, 8194111, 8194112, 8194113, 1433666, 1433667, 1433668, 1433669, 14406, 8193095, 14408, 917577, 917578, 65867, 65612, 65613, 32846, 32847, 32848, 98385, 98642, 98387, 98388, 98389, 98390, 32855, 32856, 98393, 98394, 98395, 98396, 98397, 98398, 98399, 65632, 819297, 819298, 819299, 819812, 819301, 98406, 65639, 66152, 819561, 33130, 32875, 32876, 32877, 32878, 98671, 98416, 98417, 1024114]
def gCon : List Nat := [62328, 14457, 61562, 39035]
/-- how many members a group has -/
def gn (g : Nat) : Int := match g % 256 with
  | 8 => 65
  | 9 => 16
  | 10 => 48
  | 12 => 30
  | 13 => 19
  | 14 => 27
  | 36 => 7
  | 38 => 7
  | 51 => 65
  | _ => 1
/-- references in an array: the group, the mode (1: the place, 2: the content), what is added -/
def aT (g : Nat) : Nat × Nat × Int := match g % 256 with
  | 21 => (12, 2, 0)
  | 26 => (13, 2, 0)
  | 35 => (98852, 1, 0)
  | 37 => (98854, 1, 0)
  | 39 => (8, 1, 0)
  | 40 => (8, 1, 48)
  | 41 => (9, 1, 0)
  | 42 => (10, 1, 0)
  | 120 => (12, 1, 0)
  | _ => (0, 0, 0)
def aY (g : Nat) : FieldType := match g % 256 with
  | 20 => .char
  | 21 => (.object "StaticKernel$Kind")
  | 24 => .long
  | 25 => .long
  | 26 => (.object "StaticKernel$Role")
  | 35 => (.array .long)
  | 36 => .long
  | 37 => (.array .long)
  | 38 => .long
  | 39 => (.object "StaticKernel$Worker")
  | 40 => (.object "StaticKernel$Worker")
  | 41 => (.object "StaticKernel$Counter")
  | 42 => (.object "StaticKernel$Alarm")
  | 45 => .boolean
  | 60 => .byte
  | 61 => .byte
  | 71 => .byte
  | 75 => .boolean
  | 82 => .boolean
  | 100 => .long
  | 104 => .long
  | 105 => .boolean
  | 106 => .boolean
  | 111 => .boolean
  | 120 => (.object "StaticKernel$Kind")
  | _ => .int
abbrev gk (g : Nat) : Nat := g / 256 % 8
abbrev gl (g : Nat) : Nat := g / 2048
def gs : List (String × String × String × AV) := [
  ("StaticKernel$Kind", "BAD", "LStaticKernel$Kind;", aR 12 0),
  ("StaticKernel$Kind", "END", "LStaticKernel$Kind;", aR 12 1),
  ("StaticKernel$Kind", "COMMA", "LStaticKernel$Kind;", aR 12 2),
  ("StaticKernel$Kind", "NUMBER", "LStaticKernel$Kind;", aR 12 3),
  ("StaticKernel$Kind", "NAME", "LStaticKernel$Kind;", aR 12 4),
  ("StaticKernel$Kind", "MODE", "LStaticKernel$Kind;", aR 12 5),
  ("StaticKernel$Kind", "EVENT", "LStaticKernel$Kind;", aR 12 6),
  ("StaticKernel$Kind", "RESOURCE", "LStaticKernel$Kind;", aR 12 7),
  ("StaticKernel$Kind", "INTERNAL", "LStaticKernel$Kind;", aR 12 8),
  ("StaticKernel$Kind", "AS", "LStaticKernel$Kind;", aR 12 9),
  ("StaticKernel$Kind", "COUNTER", "LStaticKernel$Kind;", aR 12 10),
  ("StaticKernel$Kind", "MAX", "LStaticKernel$Kind;", aR 12 11),
  ("StaticKernel$Kind", "BASE", "LStaticKernel$Kind;", aR 12 12),
  ("StaticKernel$Kind", "LEAST", "LStaticKernel$Kind;", aR 12 13),
  ("StaticKernel$Kind", "TASK", "LStaticKernel$Kind;", aR 12 14),
  ("StaticKernel$Kind", "PRIORITY", "LStaticKernel$Kind;", aR 12 15),
  ("StaticKernel$Kind", "ISR", "LStaticKernel$Kind;", aR 12 16),
  ("StaticKernel$Kind", "LEVEL", "LStaticKernel$Kind;", aR 12 17),
  ("StaticKernel$Kind", "USES", "LStaticKernel$Kind;", aR 12 18),
  ("StaticKernel$Kind", "ALARM", "LStaticKernel$Kind;", aR 12 19),
  ("StaticKernel$Kind", "ON", "LStaticKernel$Kind;", aR 12 20),
  ("StaticKernel$Kind", "STARTS", "LStaticKernel$Kind;", aR 12 21),
  ("StaticKernel$Kind", "SETS", "LStaticKernel$Kind;", aR 12 22),
  ("StaticKernel$Kind", "CALLS", "LStaticKernel$Kind;", aR 12 23),
  ("StaticKernel$Kind", "AUTO", "LStaticKernel$Kind;", aR 12 24),
  ("StaticKernel$Kind", "IN", "LStaticKernel$Kind;", aR 12 25),
  ("StaticKernel$Kind", "EVERY", "LStaticKernel$Kind;", aR 12 26),
  ("StaticKernel$Kind", "WHOLE", "LStaticKernel$Kind;", aR 12 27),
  ("StaticKernel$Kind", "LIMIT", "LStaticKernel$Kind;", aR 12 28),
  ("StaticKernel$Kind", "WAITS", "LStaticKernel$Kind;", aR 12 29),
  ("StaticKernel$Role", "WORD", "LStaticKernel$Role;", aR 13 0),
  ("StaticKernel$Role", "TELLS", "LStaticKernel$Role;", aR 13 1),
  ("StaticKernel$Role", "PART", "LStaticKernel$Role;", aR 13 2),
  ("StaticKernel$Role", "AS", "LStaticKernel$Role;", aR 13 3),
  ("StaticKernel$Role", "USES", "LStaticKernel$Role;", aR 13 4),
  ("StaticKernel$Role", "ON", "LStaticKernel$Role;", aR 13 5),
  ("StaticKernel$Role", "STARTS", "LStaticKernel$Role;", aR 13 6),
  ("StaticKernel$Role", "SETS", "LStaticKernel$Role;", aR 13 7),
  ("StaticKernel$Role", "EVENT", "LStaticKernel$Role;", aR 13 8),
  ("StaticKernel$Role", "WAITS", "LStaticKernel$Role;", aR 13 9),
  ("StaticKernel$Role", "AUTO", "LStaticKernel$Role;", aR 13 10),
  ("StaticKernel$Role", "PRIORITY", "LStaticKernel$Role;", aR 13 11),
  ("StaticKernel$Role", "LIMIT", "LStaticKernel$Role;", aR 13 12),
  ("StaticKernel$Role", "MAX", "LStaticKernel$Role;", aR 13 13),
  ("StaticKernel$Role", "BASE", "LStaticKernel$Role;", aR 13 14),
  ("StaticKernel$Role", "LEAST", "LStaticKernel$Role;", aR 13 15),
  ("StaticKernel$Role", "LEVEL", "LStaticKernel$Role;", aR 13 16),
  ("StaticKernel$Role", "IN", "LStaticKernel$Role;", aR 13 17),
  ("StaticKernel$Role", "EVERY", "LStaticKernel$Role;", aR 13 18),
  ("StaticKernel", "KINDS", "[LStaticKernel$Kind;", aR 62328 0),
  ("StaticKernel", "MOST", "[I", aR 14457 0),
  ("StaticKernel$1", "$SwitchMap$StaticKernel$Kind", "[I", aR 61562 0),
  ("StaticKernel$1", "$SwitchMap$StaticKernel$Role", "[I", aR 39035 0)]
/-- the strings, by bytes; the string that is a kind's word; the sort that a role wants; constant arrays -/
def strL : List (List Nat) := [[109, 111, 100, 101, 32, 101, 118, 101, 110, 116, 32, 114, 101, 115, 111, 117, 114, 99, 101, 32, 99, 111, 117, 110, 116, 101, 114, 32, 116, 97, 115, 107, 32, 105, 115, 114, 32, 97, 108, 97, 114, 109, 32, 105, 110, 116, 101, 114, 110, 97, 108, 32, 97, 115, 32, 109, 97, 120, 32, 98, 97, 115, 101, 32, 108, 101, 97, 115, 116, 32, 112, 114, 105, 111, 114, 105, 116, 121, 32, 108, 101, 118, 101, 108, 32, 117, 115, 101, 115, 32, 111, 110, 32, 115, 116, 97, 114, 116, 115, 32, 115, 101, 116, 115, 32, 99, 97, 108, 108, 115, 32, 97, 117, 116, 111, 32, 105, 110, 32, 101, 118, 101, 114, 121, 32, 119, 104, 111, 108, 101, 32, 108, 105, 109, 105, 116, 32, 119, 97, 105, 116, 115, 32], [], [105, 110, 116, 101, 114, 110, 97, 108], [97, 115], [109, 97, 120], [98, 97, 115, 101], [108, 101, 97, 115, 116], [112, 114, 105, 111, 114, 105, 116, 121], [108, 101, 118, 101, 108], [117, 115, 101, 115], [111, 110], [115, 116, 97, 114, 116, 115], [115, 101, 116, 115], [99, 97, 108, 108, 115], [97, 117, 116, 111], [105, 110], [101, 118, 101, 114, 121], [119, 97, 105, 116, 115], [119, 104, 111, 108, 101], [109, 111, 100, 101], [101, 118, 101, 110, 116], [114, 101, 115, 111, 117, 114, 99, 101], [99, 111, 117, 110, 116, 101, 114], [116, 97, 115, 107], [105, 115, 114], [97, 108, 97, 114, 109], [108, 105, 109, 105, 116]]
def kwdL : List Nat := [1, 1, 1, 1, 1, 19, 20, 21, 2, 3, 22, 4, 5, 6, 23, 7, 24, 8, 9, 25, 10, 11, 12, 13, 14, 15, 16, 18, 26, 17]
def rwtL : List Int := [-1, -1, -1, 2, 2, 3, 4, 4, 1, 1, 0, -1, -1, -1, -1, -1, -1, -1, -1]
def kwd (t : Int) : Int := ((kwdL.getD t.toNat 0 : Nat) : Int)
def rwt (t : Int) : Int := rwtL.getD t.toNat 0
def sLen (t : Int) : Nat := (strL.getD t.toNat []).length
def sByt (t : Int) (j : Nat) : Nat := (strL.getD t.toNat []).getD j 0
def conL (g : Nat) : List Int := match g % 256 with
  | 121 => [8, 32, 32, 16, 48, 16, 48]
  | 122 => [0, 0, 0, 0, 0, 1, 2, 3, 0, 0, 4, 0, 0, 0, 5, 0, 6, 0, 11, 7, 0, 0, 0, 0, 10, 0, 0, 8, 9, 12]
  | 123 => [0, 1, 2, 14, 4, 0, 0, 0, 15, 5, 3, 6, 7, 8, 9, 10, 11, 12, 13]
  | _ => []
def gfn : List (String × Nat × String × String × String × String) := [("StaticKernel$Tokens", 91, "StaticKernel", "KINDS", "[LStaticKernel$Kind;", "StaticKernel"), ("StaticKernel$Faults", 178, "StaticKernel", "MOST", "[I", "StaticKernel"), ("StaticKernel$Plan", 63, "StaticKernel", "MOST", "[I", "StaticKernel")]
def gmn : List (String × Nat × MethodName × String) := [("StaticKernel", 15, ⟨"StaticKernel$Tokens", "<init>", "()V"⟩, "StaticKernel"), ("StaticKernel$Plan", 57, ⟨"StaticKernel$Worker", "<init>", "()V"⟩, "StaticKernel"), ("StaticKernel$Plan", 58, ⟨"StaticKernel$Counter", "<init>", "()V"⟩, "StaticKernel"), ("StaticKernel$Plan", 59, ⟨"StaticKernel$Alarm", "<init>", "()V"⟩, "StaticKernel"), ("StaticKernel$Machine", 11, ⟨"StaticKernel$Rows", "<init>", "()V"⟩, "StaticKernel"), ("StaticKernel$Machine", 34, ⟨"StaticKernel$Worker", "<init>", "()V"⟩, "StaticKernel")]
