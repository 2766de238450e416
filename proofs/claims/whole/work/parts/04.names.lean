/-! names of the classes (printed by gen_world.py) -/
def cn_M : String := "StreamPairModel"
def fd_M : u_T := fun k => match k with
  | 0 => ("StreamPairModel", "thrown", "I", false)
  | 1 => ("StreamPairModel", "tape", "[B", true)
  | 2 => ("StreamPairModel", "tapes", "I", false)
  | 3 => ("StreamPairModel", "time", "J", false)
  | 4 => ("StreamPairModel", "connections", "I", false)
  | 5 => ("StreamPairModel", "lost", "I", false)
  | 6 => ("StreamPairModel", "slots", "[B", true)
  | 7 => ("StreamPairModel", "lengths", "[I", true)
  | 8 => ("StreamPairModel", "goals", "[I", true)
  | 9 => ("StreamPairModel", "way", "[I", true)
  | 10 => ("StreamPairModel", "ways", "I", false)
  | 11 => ("StreamPairModel", "taken", "[Z", true)
  | 12 => ("StreamPairModel", "room", "[I", true)
  | 13 => ("StreamPairModel", "mss", "[I", true)
  | 14 => ("StreamPairModel", "state", "[I", true)
  | 15 => ("StreamPairModel", "iss", "[I", true)
  | 16 => ("StreamPairModel", "una", "[I", true)
  | 17 => ("StreamPairModel", "nxt", "[I", true)
  | 18 => ("StreamPairModel", "max", "[I", true)
  | 19 => ("StreamPairModel", "far", "[I", true)
  | 20 => ("StreamPairModel", "wl1", "[I", true)
  | 21 => ("StreamPairModel", "wl2", "[I", true)
  | 22 => ("StreamPairModel", "segment", "[I", true)
  | 23 => ("StreamPairModel", "rcv", "[I", true)
  | 24 => ("StreamPairModel", "edge", "[I", true)
  | 25 => ("StreamPairModel", "cwnd", "[I", true)
  | 26 => ("StreamPairModel", "thresh", "[I", true)
  | 27 => ("StreamPairModel", "same", "[I", true)
  | 28 => ("StreamPairModel", "rto", "[I", true)
  | 29 => ("StreamPairModel", "tries", "[I", true)
  | 30 => ("StreamPairModel", "srtt", "[I", true)
  | 31 => ("StreamPairModel", "var", "[I", true)
  | 32 => ("StreamPairModel", "timed", "[I", true)
  | 33 => ("StreamPairModel", "sent", "[I", true)
  | 34 => ("StreamPairModel", "dropped", "[I", true)
  | 35 => ("StreamPairModel", "fate", "[I", true)
  | 36 => ("StreamPairModel", "unread", "[I", true)
  | 37 => ("StreamPairModel", "given", "[I", true)
  | 38 => ("StreamPairModel", "due", "[J", true)
  | 39 => ("StreamPairModel", "timedAt", "[J", true)
  | 40 => ("StreamPairModel", "timing", "[Z", true)
  | 41 => ("StreamPairModel", "closed", "[Z", true)
  | 42 => ("StreamPairModel", "finTaken", "[Z", true)
  | 43 => ("StreamPairModel", "gift", "[B", true)
  | 44 => ("StreamPairModel", "ring", "[B", true)
  | 45 => ("StreamPairModel", "kept", "[Z", true)
  | 46 => ("StreamPairModel", "seq", "I", false)
  | 47 => ("StreamPairModel", "ack", "I", false)
  | 48 => ("StreamPairModel", "flags", "I", false)
  | 49 => ("StreamPairModel", "window", "I", false)
  | 50 => ("StreamPairModel", "dataAt", "I", false)
  | 51 => ("StreamPairModel", "dataSize", "I", false)
  | 52 => ("StreamPairModel", "slot", "I", false)
  | _ => ("StreamPairModel", "told", "I", false)
def ft_M : Nat → FieldType := fun k => match k with
  | 0 => .int
  | 1 => .array .byte
  | 2 => .int
  | 3 => .long
  | 4 => .int
  | 5 => .int
  | 6 => .array .byte
  | 7 => .array .int
  | 8 => .array .int
  | 9 => .array .int
  | 10 => .int
  | 11 => .array .boolean
  | 12 => .array .int
  | 13 => .array .int
  | 14 => .array .int
  | 15 => .array .int
  | 16 => .array .int
  | 17 => .array .int
  | 18 => .array .int
  | 19 => .array .int
  | 20 => .array .int
  | 21 => .array .int
  | 22 => .array .int
  | 23 => .array .int
  | 24 => .array .int
  | 25 => .array .int
  | 26 => .array .int
  | 27 => .array .int
  | 28 => .array .int
  | 29 => .array .int
  | 30 => .array .int
  | 31 => .array .int
  | 32 => .array .int
  | 33 => .array .int
  | 34 => .array .int
  | 35 => .array .int
  | 36 => .array .int
  | 37 => .array .int
  | 38 => .array .long
  | 39 => .array .long
  | 40 => .array .boolean
  | 41 => .array .boolean
  | 42 => .array .boolean
  | 43 => .array .byte
  | 44 => .array .byte
  | 45 => .array .boolean
  | 46 => .int
  | 47 => .int
  | 48 => .int
  | 49 => .int
  | 50 => .int
  | 51 => .int
  | 52 => .int
  | _ => .int
theorem fn_M : ∀ a, a < 54 → ∀ b, b < 54 → a ≠ b → (fd_M a).2.1 ≠ (fd_M b).2.1 := by decide +kernel
theorem fo_M : ∀ k, k < 54 → parseFieldDescriptor (fd_M k).2.2.1 = some (ft_M k) := by decide +kernel
theorem fi_M : ∀ w ∈ u_ws cn_M fd_M 54, w ∈ gt := by
  have h : u_ws cn_M fd_M 54 = [1306, 1308, 1310, 1312, 1314, 1316, 1318, 1320, 1322, 1324, 1326, 1328, 1330, 1332, 1334, 1336, 1338, 1340, 1342, 1344, 1346, 1348, 1350, 1352, 1354, 1356, 1358, 1360, 1362, 1364, 1366, 1368, 1370, 1372, 1374, 1376, 1378, 1380, 1382, 1384, 1386, 1388, 1390, 1392, 1394, 1396, 1398, 1400, 1402, 1404, 1406, 1408, 1410, 1412].filterMap (fun i => lw_tbl[i]?) ∧ (u_ws cn_M fd_M 54).all goodWord = true := by decide +kernel
  intro w hw
  have h2 := List.all_eq_true.mp h.2 w hw
  rw [h.1] at hw
  obtain ⟨i, -, hi⟩ := List.mem_filterMap.mp hw
  exact gi (List.mem_of_getElem? hi) h2
def cn_P : String := "StreamPair"
def fd_P : u_T := fun k => match k with
  | 0 => ("StreamPair", "tape", "LStreamPair$Tape;", true)
  | 1 => ("StreamPair", "clock", "LStreamPair$Clock;", true)
  | 2 => ("StreamPair", "network", "LStreamPair$Network;", true)
  | 3 => ("StreamPair", "opener", "LStreamPair$End;", true)
  | 4 => ("StreamPair", "waiter", "LStreamPair$End;", true)
  | _ => ("StreamPair", "connections", "I", false)
def ft_P : Nat → FieldType := fun k => match k with
  | 0 => .object "StreamPair$Tape"
  | 1 => .object "StreamPair$Clock"
  | 2 => .object "StreamPair$Network"
  | 3 => .object "StreamPair$End"
  | 4 => .object "StreamPair$End"
  | _ => .int
theorem fn_P : ∀ a, a < 6 → ∀ b, b < 6 → a ≠ b → (fd_P a).2.1 ≠ (fd_P b).2.1 := by decide +kernel
theorem fo_P : ∀ k, k < 6 → parseFieldDescriptor (fd_P k).2.2.1 = some (ft_P k) := by decide +kernel
theorem fi_P : ∀ w ∈ u_ws cn_P fd_P 6, w ∈ gt := by
  have h : u_ws cn_P fd_P 6 = [405, 407, 409, 411, 413, 415].filterMap (fun i => lw_tbl[i]?) ∧ (u_ws cn_P fd_P 6).all goodWord = true := by decide +kernel
  intro w hw
  have h2 := List.all_eq_true.mp h.2 w hw
  rw [h.1] at hw
  obtain ⟨i, -, hi⟩ := List.mem_filterMap.mp hw
  exact gi (List.mem_of_getElem? hi) h2
def cn_T : String := "StreamPair$Tape"
def fd_T : u_T := fun k => match k with
  | 0 => ("StreamPair$Tape", "bytes", "[B", false)
  | _ => ("StreamPair$Tape", "length", "I", false)
def ft_T : Nat → FieldType := fun k => match k with
  | 0 => .array .byte
  | _ => .int
theorem fn_T : ∀ a, a < 2 → ∀ b, b < 2 → a ≠ b → (fd_T a).2.1 ≠ (fd_T b).2.1 := by decide +kernel
theorem fo_T : ∀ k, k < 2 → parseFieldDescriptor (fd_T k).2.2.1 = some (ft_T k) := by decide +kernel
theorem fi_T : ∀ w ∈ u_ws cn_T fd_T 2, w ∈ gt := by
  have h : u_ws cn_T fd_T 2 = [124, 126].filterMap (fun i => lw_tbl[i]?) ∧ (u_ws cn_T fd_T 2).all goodWord = true := by decide +kernel
  intro w hw
  have h2 := List.all_eq_true.mp h.2 w hw
  rw [h.1] at hw
  obtain ⟨i, -, hi⟩ := List.mem_filterMap.mp hw
  exact gi (List.mem_of_getElem? hi) h2
def cn_C : String := "StreamPair$Clock"
def fd_C : u_T := fun k => match k with
  | _ => ("StreamPair$Clock", "time", "J", false)
def ft_C : Nat → FieldType := fun k => match k with
  | _ => .long
theorem fn_C : ∀ a, a < 1 → ∀ b, b < 1 → a ≠ b → (fd_C a).2.1 ≠ (fd_C b).2.1 := by decide +kernel
theorem fo_C : ∀ k, k < 1 → parseFieldDescriptor (fd_C k).2.2.1 = some (ft_C k) := by decide +kernel
theorem fi_C : ∀ w ∈ u_ws cn_C fd_C 1, w ∈ gt := by
  have h : u_ws cn_C fd_C 1 = [138].filterMap (fun i => lw_tbl[i]?) ∧ (u_ws cn_C fd_C 1).all goodWord = true := by decide +kernel
  intro w hw
  have h2 := List.all_eq_true.mp h.2 w hw
  rw [h.1] at hw
  obtain ⟨i, -, hi⟩ := List.mem_filterMap.mp hw
  exact gi (List.mem_of_getElem? hi) h2
def cn_N : String := "StreamPair$Network"
def fd_N : u_T := fun k => match k with
  | 0 => ("StreamPair$Network", "row", "Ljava/util/ArrayList;", true)
  | 1 => ("StreamPair$Network", "spare", "Ljava/util/ArrayList;", true)
  | _ => ("StreamPair$Network", "lost", "I", false)
def ft_N : Nat → FieldType := fun k => match k with
  | 0 => .object "java/util/ArrayList"
  | 1 => .object "java/util/ArrayList"
  | _ => .int
theorem fn_N : ∀ a, a < 3 → ∀ b, b < 3 → a ≠ b → (fd_N a).2.1 ≠ (fd_N b).2.1 := by decide +kernel
theorem fo_N : ∀ k, k < 3 → parseFieldDescriptor (fd_N k).2.2.1 = some (ft_N k) := by decide +kernel
theorem fi_N : ∀ w ∈ u_ws cn_N fd_N 3, w ∈ gt := by
  have h : u_ws cn_N fd_N 3 = [179, 181, 183].filterMap (fun i => lw_tbl[i]?) ∧ (u_ws cn_N fd_N 3).all goodWord = true := by decide +kernel
  intro w hw
  have h2 := List.all_eq_true.mp h.2 w hw
  rw [h.1] at hw
  obtain ⟨i, -, hi⟩ := List.mem_filterMap.mp hw
  exact gi (List.mem_of_getElem? hi) h2
def cn_A : String := "java/util/ArrayList"
def fd_A : u_T := fun k => match k with
  | 0 => ("java/util/ArrayList", "elementData", "[Ljava/lang/Object;", false)
  | 1 => ("java/util/ArrayList", "size", "I", false)
  | _ => ("java/util/AbstractList", "modCount", "I", false)
def ft_A : Nat → FieldType := fun k => match k with
  | 0 => .array (.object "java/lang/Object")
  | 1 => .int
  | _ => .int
theorem fn_A : ∀ a, a < 3 → ∀ b, b < 3 → a ≠ b → (fd_A a).2.1 ≠ (fd_A b).2.1 := by decide +kernel
theorem fo_A : ∀ k, k < 3 → parseFieldDescriptor (fd_A k).2.2.1 = some (ft_A k) := by decide +kernel
theorem fi_A : ∀ w ∈ u_ws cn_A fd_A 3, w ∈ gt := by
  have h : u_ws cn_A fd_A 3 = [166, 168, 170].filterMap (fun i => lw_tbl[i]?) ∧ (u_ws cn_A fd_A 3).all goodWord = true := by decide +kernel
  intro w hw
  have h2 := List.all_eq_true.mp h.2 w hw
  rw [h.1] at hw
  obtain ⟨i, -, hi⟩ := List.mem_filterMap.mp hw
  exact gi (List.mem_of_getElem? hi) h2
def cn_E : String := "StreamPair$End"
def fd_E : u_T := fun k => match k with
  | 0 => ("StreamPair$End", "index", "I", true)
  | 1 => ("StreamPair$End", "clock", "LStreamPair$Clock;", true)
  | 2 => ("StreamPair$End", "network", "LStreamPair$Network;", true)
  | 3 => ("StreamPair$End", "supply", "LStreamPair$Supply;", true)
  | 4 => ("StreamPair$End", "arrivals", "LStreamPair$Arrivals;", true)
  | 5 => ("StreamPair$End", "pace", "LStreamPair$Pace;", true)
  | 6 => ("StreamPair$End", "crowd", "LStreamPair$Crowd;", true)
  | 7 => ("StreamPair$End", "mss", "I", false)
  | 8 => ("StreamPair$End", "state", "I", false)
  | 9 => ("StreamPair$End", "ending", "I", false)
  | 10 => ("StreamPair$End", "sent", "I", false)
  | 11 => ("StreamPair$End", "refused", "I", false)
  | 12 => ("StreamPair$End", "port", "I", false)
  | _ => ("StreamPair$End", "otherPort", "I", false)
def ft_E : Nat → FieldType := fun k => match k with
  | 0 => .int
  | 1 => .object "StreamPair$Clock"
  | 2 => .object "StreamPair$Network"
  | 3 => .object "StreamPair$Supply"
  | 4 => .object "StreamPair$Arrivals"
  | 5 => .object "StreamPair$Pace"
  | 6 => .object "StreamPair$Crowd"
  | 7 => .int
  | 8 => .int
  | 9 => .int
  | 10 => .int
  | 11 => .int
  | 12 => .int
  | _ => .int
theorem fn_E : ∀ a, a < 14 → ∀ b, b < 14 → a ≠ b → (fd_E a).2.1 ≠ (fd_E b).2.1 := by decide +kernel
theorem fo_E : ∀ k, k < 14 → parseFieldDescriptor (fd_E k).2.2.1 = some (ft_E k) := by decide +kernel
theorem fi_E : ∀ w ∈ u_ws cn_E fd_E 14, w ∈ gt := by
  have h : u_ws cn_E fd_E 14 = [370, 372, 374, 376, 378, 380, 382, 384, 386, 388, 390, 392, 394, 396].filterMap (fun i => lw_tbl[i]?) ∧ (u_ws cn_E fd_E 14).all goodWord = true := by decide +kernel
  intro w hw
  have h2 := List.all_eq_true.mp h.2 w hw
  rw [h.1] at hw
  obtain ⟨i, -, hi⟩ := List.mem_filterMap.mp hw
  exact gi (List.mem_of_getElem? hi) h2
def cn_U : String := "StreamPair$Supply"
def fd_U : u_T := fun k => match k with
  | 0 => ("StreamPair$Supply", "bytes", "[B", false)
  | 1 => ("StreamPair$Supply", "start", "I", false)
  | 2 => ("StreamPair$Supply", "waiting", "I", false)
  | 3 => ("StreamPair$Supply", "iss", "I", false)
  | 4 => ("StreamPair$Supply", "una", "I", false)
  | 5 => ("StreamPair$Supply", "nxt", "I", false)
  | 6 => ("StreamPair$Supply", "max", "I", false)
  | 7 => ("StreamPair$Supply", "fin", "I", false)
  | 8 => ("StreamPair$Supply", "closed", "Z", false)
  | 9 => ("StreamPair$Supply", "far", "I", false)
  | 10 => ("StreamPair$Supply", "wl1", "I", false)
  | _ => ("StreamPair$Supply", "wl2", "I", false)
def ft_U : Nat → FieldType := fun k => match k with
  | 0 => .array .byte
  | 1 => .int
  | 2 => .int
  | 3 => .int
  | 4 => .int
  | 5 => .int
  | 6 => .int
  | 7 => .int
  | 8 => .boolean
  | 9 => .int
  | 10 => .int
  | _ => .int
theorem fn_U : ∀ a, a < 12 → ∀ b, b < 12 → a ≠ b → (fd_U a).2.1 ≠ (fd_U b).2.1 := by decide +kernel
theorem fo_U : ∀ k, k < 12 → parseFieldDescriptor (fd_U k).2.2.1 = some (ft_U k) := by decide +kernel
theorem fi_U : ∀ w ∈ u_ws cn_U fd_U 12, w ∈ gt := by
  have h : u_ws cn_U fd_U 12 = [219, 221, 223, 225, 227, 229, 231, 233, 235, 237, 239, 241].filterMap (fun i => lw_tbl[i]?) ∧ (u_ws cn_U fd_U 12).all goodWord = true := by decide +kernel
  intro w hw
  have h2 := List.all_eq_true.mp h.2 w hw
  rw [h.1] at hw
  obtain ⟨i, -, hi⟩ := List.mem_filterMap.mp hw
  exact gi (List.mem_of_getElem? hi) h2
def cn_V : String := "StreamPair$Arrivals"
def fd_V : u_T := fun k => match k with
  | 0 => ("StreamPair$Arrivals", "room", "I", false)
  | 1 => ("StreamPair$Arrivals", "rcv", "I", false)
  | 2 => ("StreamPair$Arrivals", "edge", "I", false)
  | 3 => ("StreamPair$Arrivals", "finTaken", "Z", false)
  | 4 => ("StreamPair$Arrivals", "unread", "I", false)
  | 5 => ("StreamPair$Arrivals", "kept", "I", false)
  | 6 => ("StreamPair$Arrivals", "ring", "[S", false)
  | _ => ("StreamPair$Arrivals", "firstUnread", "I", false)
def ft_V : Nat → FieldType := fun k => match k with
  | 0 => .int
  | 1 => .int
  | 2 => .int
  | 3 => .boolean
  | 4 => .int
  | 5 => .int
  | 6 => .array .short
  | _ => .int
theorem fn_V : ∀ a, a < 8 → ∀ b, b < 8 → a ≠ b → (fd_V a).2.1 ≠ (fd_V b).2.1 := by decide +kernel
theorem fo_V : ∀ k, k < 8 → parseFieldDescriptor (fd_V k).2.2.1 = some (ft_V k) := by decide +kernel
theorem fi_V : ∀ w ∈ u_ws cn_V fd_V 8, w ∈ gt := by
  have h : u_ws cn_V fd_V 8 = [265, 267, 269, 271, 273, 275, 277, 279].filterMap (fun i => lw_tbl[i]?) ∧ (u_ws cn_V fd_V 8).all goodWord = true := by decide +kernel
  intro w hw
  have h2 := List.all_eq_true.mp h.2 w hw
  rw [h.1] at hw
  obtain ⟨i, -, hi⟩ := List.mem_filterMap.mp hw
  exact gi (List.mem_of_getElem? hi) h2
def cn_Z : String := "StreamPair$Pace"
def fd_Z : u_T := fun k => match k with
  | 0 => ("StreamPair$Pace", "rto", "I", false)
  | 1 => ("StreamPair$Pace", "tries", "I", false)
  | 2 => ("StreamPair$Pace", "runs", "Z", false)
  | 3 => ("StreamPair$Pace", "due", "J", false)
  | 4 => ("StreamPair$Pace", "srtt", "J", false)
  | 5 => ("StreamPair$Pace", "variation", "J", false)
  | 6 => ("StreamPair$Pace", "timed", "Z", false)
  | 7 => ("StreamPair$Pace", "timedNumber", "I", false)
  | _ => ("StreamPair$Pace", "timedAt", "J", false)
def ft_Z : Nat → FieldType := fun k => match k with
  | 0 => .int
  | 1 => .int
  | 2 => .boolean
  | 3 => .long
  | 4 => .long
  | 5 => .long
  | 6 => .boolean
  | 7 => .int
  | _ => .long
theorem fn_Z : ∀ a, a < 9 → ∀ b, b < 9 → a ≠ b → (fd_Z a).2.1 ≠ (fd_Z b).2.1 := by decide +kernel
theorem fo_Z : ∀ k, k < 9 → parseFieldDescriptor (fd_Z k).2.2.1 = some (ft_Z k) := by decide +kernel
theorem fi_Z : ∀ w ∈ u_ws cn_Z fd_Z 9, w ∈ gt := by
  have h : u_ws cn_Z fd_Z 9 = [306, 308, 310, 312, 314, 316, 318, 320, 322].filterMap (fun i => lw_tbl[i]?) ∧ (u_ws cn_Z fd_Z 9).all goodWord = true := by decide +kernel
  intro w hw
  have h2 := List.all_eq_true.mp h.2 w hw
  rw [h.1] at hw
  obtain ⟨i, -, hi⟩ := List.mem_filterMap.mp hw
  exact gi (List.mem_of_getElem? hi) h2
def cn_O : String := "StreamPair$Crowd"
def fd_O : u_T := fun k => match k with
  | 0 => ("StreamPair$Crowd", "segment", "I", false)
  | 1 => ("StreamPair$Crowd", "cwnd", "I", false)
  | 2 => ("StreamPair$Crowd", "thresh", "I", false)
  | _ => ("StreamPair$Crowd", "same", "I", false)
def ft_O : Nat → FieldType := fun k => match k with
  | 0 => .int
  | 1 => .int
  | 2 => .int
  | _ => .int
theorem fn_O : ∀ a, a < 4 → ∀ b, b < 4 → a ≠ b → (fd_O a).2.1 ≠ (fd_O b).2.1 := by decide +kernel
theorem fo_O : ∀ k, k < 4 → parseFieldDescriptor (fd_O k).2.2.1 = some (ft_O k) := by decide +kernel
theorem fi_O : ∀ w ∈ u_ws cn_O fd_O 4, w ∈ gt := by
  have h : u_ws cn_O fd_O 4 = [340, 342, 344, 346].filterMap (fun i => lw_tbl[i]?) ∧ (u_ws cn_O fd_O 4).all goodWord = true := by decide +kernel
  intro w hw
  have h2 := List.all_eq_true.mp h.2 w hw
  rw [h.1] at hw
  obtain ⟨i, -, hi⟩ := List.mem_filterMap.mp hw
  exact gi (List.mem_of_getElem? hi) h2
def cn_G : String := "StreamPair$Segment"
def fd_G : u_T := fun k => match k with
  | 0 => ("StreamPair$Segment", "bytes", "[B", false)
  | 1 => ("StreamPair$Segment", "length", "I", false)
  | _ => ("StreamPair$Segment", "to", "I", false)
def ft_G : Nat → FieldType := fun k => match k with
  | 0 => .array .byte
  | 1 => .int
  | _ => .int
theorem fn_G : ∀ a, a < 3 → ∀ b, b < 3 → a ≠ b → (fd_G a).2.1 ≠ (fd_G b).2.1 := by decide +kernel
theorem fo_G : ∀ k, k < 3 → parseFieldDescriptor (fd_G k).2.2.1 = some (ft_G k) := by decide +kernel
theorem fi_G : ∀ w ∈ u_ws cn_G fd_G 3, w ∈ gt := by
  have h : u_ws cn_G fd_G 3 = [592, 594, 596].filterMap (fun i => lw_tbl[i]?) ∧ (u_ws cn_G fd_G 3).all goodWord = true := by decide +kernel
  intro w hw
  have h2 := List.all_eq_true.mp h.2 w hw
  rw [h.1] at hw
  obtain ⟨i, -, hi⟩ := List.mem_filterMap.mp hw
  exact gi (List.mem_of_getElem? hi) h2
abbrev cls : List vw_C := [(cn_M, fd_M, 54), (cn_P, fd_P, 6), (cn_T, fd_T, 2), (cn_C, fd_C, 1), (cn_N, fd_N, 3), (cn_A, fd_A, 3), (cn_E, fd_E, 14), (cn_U, fd_U, 12), (cn_V, fd_V, 8), (cn_Z, fd_Z, 9), (cn_O, fd_O, 4), (cn_G, fd_G, 3)]
abbrev tys (tc : Nat → ClassId) : List (ClassId × FieldType) := [(tc 0, .int), (tc 1, .byte), (tc 2, .boolean), (tc 3, .long), (tc 4, .short), (tc 5, .object "java/lang/Object")]
/-- the reference's fields: 0 an int, 1 a long, 10 + r the array at offset r -/
def rk : Nat → Nat := fun k => match k with
  | 0 => 0
  | 1 => 11
  | 2 => 0
  | 3 => 1
  | 4 => 0
  | 5 => 0
  | 6 => 12
  | 7 => 13
  | 8 => 14
  | 9 => 15
  | 10 => 0
  | 11 => 16
  | 12 => 17
  | 13 => 18
  | 14 => 19
  | 15 => 20
  | 16 => 21
  | 17 => 22
  | 18 => 23
  | 19 => 24
  | 20 => 25
  | 21 => 26
  | 22 => 27
  | 23 => 28
  | 24 => 29
  | 25 => 30
  | 26 => 31
  | 27 => 32
  | 28 => 33
  | 29 => 34
  | 30 => 35
  | 31 => 36
  | 32 => 37
  | 33 => 38
  | 34 => 39
  | 35 => 40
  | 36 => 41
  | 37 => 42
  | 38 => 43
  | 39 => 44
  | 40 => 45
  | 41 => 46
  | 42 => 47
  | 43 => 48
  | 44 => 49
  | 45 => 50
  | 46 => 0
  | 47 => 0
  | 48 => 0
  | 49 => 0
  | 50 => 0
  | 51 => 0
  | 52 => 0
  | _ => 0
/-- the reference's arrays by offset: type (0 int, 1 byte, 2 boolean, 3 long) and length -/
def rt : Nat → Nat := fun r => match r with
  | 1 => 1
  | 2 => 1
  | 6 => 2
  | 33 => 3
  | 34 => 3
  | 35 => 2
  | 36 => 2
  | 37 => 2
  | 38 => 1
  | 39 => 1
  | 40 => 2
  | _ => 0
def rn : Nat → Nat := fun r => match r with
  | 1 => 65536
  | 2 => 761292
  | 3 => 513
  | 4 => 513
  | 5 => 512
  | 6 => 513
  | 38 => 163840
  | 39 => 131072
  | 40 => 131072
  | _ => 2
theorem rk_hi : ∀ k, k < 54 → rk k ≠ 0 → rk k ≠ 1 → 11 ≤ rk k ∧ rk k < 51 := by decide +kernel
