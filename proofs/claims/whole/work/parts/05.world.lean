def TX1 : u_T := fun k => match k with
  | 0 => ("HartBoard$Bus", "ram", "LHartBoard$Ram;", true)
  | 1 => ("HartBoard$Bus", "controller", "LHartBoard$Controller;", true)
  | 2 => ("HartBoard$Bus", "line", "LHartBoard$Line;", true)
  | 3 => ("HartBoard$Bus", "soft", "J", false)
  | 4 => ("HartBoard$Bus", "compare", "J", false)
  | 5 => ("HartBoard$Bus", "time", "J", false)
  | 6 => ("HartBoard$Bus", "failed", "Z", false)
  | 7 => ("HartBoard$Bus", "reservedAt", "J", false)
  | _ => ("HartBoard$Bus", "reservedSize", "I", false)
def tyX1 : Nat → FieldType := fun k => match k with
  | 0 => .object "HartBoard$Ram"
  | 1 => .object "HartBoard$Controller"
  | 2 => .object "HartBoard$Line"
  | 3 => .long
  | 4 => .long
  | 5 => .long
  | 6 => .boolean
  | 7 => .long
  | _ => .int
def TX2 : u_T := fun k => match k with
  | 0 => ("HartBoard$Bytes", "limit", "I", true)
  | 1 => ("HartBoard$Bytes", "row", "[B", false)
  | 2 => ("HartBoard$Bytes", "first", "I", false)
  | _ => ("HartBoard$Bytes", "count", "I", false)
def tyX2 : Nat → FieldType := fun k => match k with
  | 0 => .int
  | 1 => .array .byte
  | 2 => .int
  | _ => .int
def TX3 : u_T := fun k => match k with
  | 0 => ("HartBoard$Controller", "priority", "[I", true)
  | 1 => ("HartBoard$Controller", "enabled", "[I", true)
  | 2 => ("HartBoard$Controller", "threshold", "[I", true)
  | 3 => ("HartBoard$Controller", "high", "I", false)
  | 4 => ("HartBoard$Controller", "pending", "I", false)
  | _ => ("HartBoard$Controller", "claimed", "I", false)
def tyX3 : Nat → FieldType := fun k => match k with
  | 0 => .array .int
  | 1 => .array .int
  | 2 => .array .int
  | 3 => .int
  | 4 => .int
  | _ => .int
def TX4 : u_T := fun k => match k with
  | 0 => ("HartBoard$Controls", "bus", "LHartBoard$Bus;", true)
  | 1 => ("HartBoard$Controls", "machine", "LHartBoard$Level;", true)
  | 2 => ("HartBoard$Controls", "supervisor", "LHartBoard$Level;", true)
  | 3 => ("HartBoard$Controls", "status", "J", false)
  | 4 => ("HartBoard$Controls", "medeleg", "J", false)
  | 5 => ("HartBoard$Controls", "mideleg", "J", false)
  | 6 => ("HartBoard$Controls", "mie", "J", false)
  | 7 => ("HartBoard$Controls", "mip", "J", false)
  | 8 => ("HartBoard$Controls", "satp", "J", false)
  | 9 => ("HartBoard$Controls", "cycle", "J", false)
  | _ => ("HartBoard$Controls", "retired", "J", false)
def tyX4 : Nat → FieldType := fun k => match k with
  | 0 => .object "HartBoard$Bus"
  | 1 => .object "HartBoard$Level"
  | 2 => .object "HartBoard$Level"
  | 3 => .long
  | 4 => .long
  | 5 => .long
  | 6 => .long
  | 7 => .long
  | 8 => .long
  | 9 => .long
  | _ => .long
def TX6 : u_T := fun k => match k with
  | 0 => ("HartBoard$Hart", "bus", "LHartBoard$Bus;", true)
  | 1 => ("HartBoard$Hart", "controls", "LHartBoard$Controls;", true)
  | 2 => ("HartBoard$Hart", "registers", "[J", true)
  | 3 => ("HartBoard$Hart", "pc", "J", false)
  | 4 => ("HartBoard$Hart", "privilege", "I", false)
  | 5 => ("HartBoard$Hart", "raw", "I", false)
  | 6 => ("HartBoard$Hart", "next", "J", false)
  | 7 => ("HartBoard$Hart", "cause", "I", false)
  | 8 => ("HartBoard$Hart", "value", "J", false)
  | 9 => ("HartBoard$Hart", "traps", "I", false)
  | 10 => ("HartBoard$Hart", "interrupts", "I", false)
  | _ => ("HartBoard$Hart", "latest", "I", false)
def tyX6 : Nat → FieldType := fun k => match k with
  | 0 => .object "HartBoard$Bus"
  | 1 => .object "HartBoard$Controls"
  | 2 => .array .long
  | 3 => .long
  | 4 => .int
  | 5 => .int
  | 6 => .long
  | 7 => .int
  | 8 => .long
  | 9 => .int
  | 10 => .int
  | _ => .int
def TX7 : u_T := fun k => match k with
  | 0 => ("HartBoard$Level", "tvec", "J", false)
  | 1 => ("HartBoard$Level", "counters", "J", false)
  | 2 => ("HartBoard$Level", "scratch", "J", false)
  | 3 => ("HartBoard$Level", "epc", "J", false)
  | 4 => ("HartBoard$Level", "cause", "J", false)
  | _ => ("HartBoard$Level", "tval", "J", false)
def tyX7 : Nat → FieldType := fun k => match k with
  | 0 => .long
  | 1 => .long
  | 2 => .long
  | 3 => .long
  | 4 => .long
  | _ => .long
def TX8 : u_T := fun k => match k with
  | 0 => ("HartBoard$Line", "input", "LHartBoard$Bytes;", true)
  | 1 => ("HartBoard$Line", "output", "LHartBoard$Bytes;", true)
  | _ => ("HartBoard$Line", "enable", "I", false)
def tyX8 : Nat → FieldType := fun k => match k with
  | 0 => .object "HartBoard$Bytes"
  | 1 => .object "HartBoard$Bytes"
  | _ => .int
def TX10 : u_T := fun k => match k with
  | 0 => ("HartBoard$Ram", "size", "I", true)
  | _ => ("HartBoard$Ram", "words", "[J", true)
def tyX10 : Nat → FieldType := fun k => match k with
  | 0 => .int
  | _ => .array .long
def TX11 : u_T := fun k => match k with
  | 0 => ("HartBoard", "tape", "LHartBoard$Bytes;", true)
  | 1 => ("HartBoard", "bus", "LHartBoard$Bus;", true)
  | 2 => ("HartBoard", "controls", "LHartBoard$Controls;", true)
  | _ => ("HartBoard", "hart", "LHartBoard$Hart;", true)
def tyX11 : Nat → FieldType := fun k => match k with
  | 0 => .object "HartBoard$Bytes"
  | 1 => .object "HartBoard$Bus"
  | 2 => .object "HartBoard$Controls"
  | _ => .object "HartBoard$Hart"
def TX12 : u_T := fun k => match k with
  | 0 => ("HartBoardModel", "thrown", "I", false)
  | 1 => ("HartBoardModel", "pages", "I", true)
  | 2 => ("HartBoardModel", "ram", "[B", true)
  | 3 => ("HartBoardModel", "x", "[J", true)
  | 4 => ("HartBoardModel", "pc", "J", false)
  | 5 => ("HartBoardModel", "privilege", "I", false)
  | 6 => ("HartBoardModel", "held", "J", false)
  | 7 => ("HartBoardModel", "heldSize", "I", false)
  | 8 => ("HartBoardModel", "soft", "I", false)
  | 9 => ("HartBoardModel", "compare", "J", false)
  | 10 => ("HartBoardModel", "time", "J", false)
  | 11 => ("HartBoardModel", "priority", "[I", true)
  | 12 => ("HartBoardModel", "pending", "I", false)
  | 13 => ("HartBoardModel", "claimed", "I", false)
  | 14 => ("HartBoardModel", "enable", "[I", true)
  | 15 => ("HartBoardModel", "threshold", "[I", true)
  | 16 => ("HartBoardModel", "levels", "I", false)
  | 17 => ("HartBoardModel", "tape", "[B", true)
  | 18 => ("HartBoardModel", "taped", "I", false)
  | 19 => ("HartBoardModel", "input", "[B", true)
  | 20 => ("HartBoardModel", "inputFrom", "I", false)
  | 21 => ("HartBoardModel", "inputLeft", "I", false)
  | 22 => ("HartBoardModel", "output", "[B", true)
  | 23 => ("HartBoardModel", "sent", "I", false)
  | 24 => ("HartBoardModel", "lineEnable", "I", false)
  | 25 => ("HartBoardModel", "status", "J", false)
  | 26 => ("HartBoardModel", "exceptions", "J", false)
  | 27 => ("HartBoardModel", "interruptsDown", "J", false)
  | 28 => ("HartBoardModel", "interruptsOn", "J", false)
  | 29 => ("HartBoardModel", "machineVector", "J", false)
  | 30 => ("HartBoardModel", "machineCounters", "J", false)
  | 31 => ("HartBoardModel", "machineScratch", "J", false)
  | 32 => ("HartBoardModel", "machineEpc", "J", false)
  | 33 => ("HartBoardModel", "machineCause", "J", false)
  | 34 => ("HartBoardModel", "machineValue", "J", false)
  | 35 => ("HartBoardModel", "waiting", "J", false)
  | 36 => ("HartBoardModel", "cycle", "J", false)
  | 37 => ("HartBoardModel", "retired", "J", false)
  | 38 => ("HartBoardModel", "vector", "J", false)
  | 39 => ("HartBoardModel", "counters", "J", false)
  | 40 => ("HartBoardModel", "scratch", "J", false)
  | 41 => ("HartBoardModel", "epc", "J", false)
  | 42 => ("HartBoardModel", "cause", "J", false)
  | 43 => ("HartBoardModel", "trapValue", "J", false)
  | 44 => ("HartBoardModel", "satp", "J", false)
  | 45 => ("HartBoardModel", "traps", "I", false)
  | 46 => ("HartBoardModel", "interrupts", "I", false)
  | 47 => ("HartBoardModel", "latest", "I", false)
  | 48 => ("HartBoardModel", "fault", "I", false)
  | 49 => ("HartBoardModel", "faultValue", "J", false)
  | 50 => ("HartBoardModel", "following", "J", false)
  | 51 => ("HartBoardModel", "length", "I", false)
  | _ => ("HartBoardModel", "told", "J", false)
def tyX12 : Nat → FieldType := fun k => match k with
  | 0 => .int
  | 1 => .int
  | 2 => .array .byte
  | 3 => .array .long
  | 4 => .long
  | 5 => .int
  | 6 => .long
  | 7 => .int
  | 8 => .int
  | 9 => .long
  | 10 => .long
  | 11 => .array .int
  | 12 => .int
  | 13 => .int
  | 14 => .array .int
  | 15 => .array .int
  | 16 => .int
  | 17 => .array .byte
  | 18 => .int
  | 19 => .array .byte
  | 20 => .int
  | 21 => .int
  | 22 => .array .byte
  | 23 => .int
  | 24 => .int
  | 25 => .long
  | 26 => .long
  | 27 => .long
  | 28 => .long
  | 29 => .long
  | 30 => .long
  | 31 => .long
  | 32 => .long
  | 33 => .long
  | 34 => .long
  | 35 => .long
  | 36 => .long
  | 37 => .long
  | 38 => .long
  | 39 => .long
  | 40 => .long
  | 41 => .long
  | 42 => .long
  | 43 => .long
  | 44 => .long
  | 45 => .int
  | 46 => .int
  | 47 => .int
  | 48 => .int
  | 49 => .long
  | 50 => .long
  | 51 => .int
  | _ => .long
theorem nmX1 : ∀ a, a < 9 → ∀ b, b < 9 → a ≠ b → (TX1 a).2.1 ≠ (TX1 b).2.1 := by decide +kernel
theorem tyX1_ok : ∀ k, k < 9 → parseFieldDescriptor (TX1 k).2.2.1 = some (tyX1 k) := by decide +kernel
set_option maxRecDepth 20000 in
theorem inG_X1 : ∀ w ∈ u_ws RX1 TX1 9, w ∈ gw := by
  show ∀ w ∈ [u_lay RX1 TX1 0, u_lay RX1 TX1 1, u_lay RX1 TX1 2, u_lay RX1 TX1 3, u_lay RX1 TX1 4, u_lay RX1 TX1 5, u_lay RX1 TX1 6, u_lay RX1 TX1 7, u_lay RX1 TX1 8], w ∈ gw
  exact List.forall_mem_cons.mpr ⟨gw_t1 140 rfl rfl, List.forall_mem_cons.mpr ⟨gw_t1 142 rfl rfl, List.forall_mem_cons.mpr ⟨gw_t1 144 rfl rfl, List.forall_mem_cons.mpr ⟨gw_t1 146 rfl rfl, List.forall_mem_cons.mpr ⟨gw_t1 148 rfl rfl, List.forall_mem_cons.mpr ⟨gw_t1 150 rfl rfl, List.forall_mem_cons.mpr ⟨gw_t1 152 rfl rfl, List.forall_mem_cons.mpr ⟨gw_t1 154 rfl rfl, List.forall_mem_cons.mpr ⟨gw_t1 156 rfl rfl, fun _ h => absurd h List.not_mem_nil⟩⟩⟩⟩⟩⟩⟩⟩⟩
theorem nmX2 : ∀ a, a < 4 → ∀ b, b < 4 → a ≠ b → (TX2 a).2.1 ≠ (TX2 b).2.1 := by decide +kernel
theorem tyX2_ok : ∀ k, k < 4 → parseFieldDescriptor (TX2 k).2.2.1 = some (tyX2 k) := by decide +kernel
set_option maxRecDepth 20000 in
theorem inG_X2 : ∀ w ∈ u_ws RX2 TX2 4, w ∈ gw := by
  show ∀ w ∈ [u_lay RX2 TX2 0, u_lay RX2 TX2 1, u_lay RX2 TX2 2, u_lay RX2 TX2 3], w ∈ gw
  exact List.forall_mem_cons.mpr ⟨gw_t1 39 rfl rfl, List.forall_mem_cons.mpr ⟨gw_t1 41 rfl rfl, List.forall_mem_cons.mpr ⟨gw_t1 43 rfl rfl, List.forall_mem_cons.mpr ⟨gw_t1 45 rfl rfl, fun _ h => absurd h List.not_mem_nil⟩⟩⟩⟩
theorem nmX3 : ∀ a, a < 6 → ∀ b, b < 6 → a ≠ b → (TX3 a).2.1 ≠ (TX3 b).2.1 := by decide +kernel
theorem tyX3_ok : ∀ k, k < 6 → parseFieldDescriptor (TX3 k).2.2.1 = some (tyX3 k) := by decide +kernel
set_option maxRecDepth 20000 in
theorem inG_X3 : ∀ w ∈ u_ws RX3 TX3 6, w ∈ gw := by
  show ∀ w ∈ [u_lay RX3 TX3 0, u_lay RX3 TX3 1, u_lay RX3 TX3 2, u_lay RX3 TX3 3, u_lay RX3 TX3 4, u_lay RX3 TX3 5], w ∈ gw
  exact List.forall_mem_cons.mpr ⟨gw_t1 84 rfl rfl, List.forall_mem_cons.mpr ⟨gw_t1 86 rfl rfl, List.forall_mem_cons.mpr ⟨gw_t1 88 rfl rfl, List.forall_mem_cons.mpr ⟨gw_t1 90 rfl rfl, List.forall_mem_cons.mpr ⟨gw_t1 92 rfl rfl, List.forall_mem_cons.mpr ⟨gw_t1 94 rfl rfl, fun _ h => absurd h List.not_mem_nil⟩⟩⟩⟩⟩⟩
theorem nmX4 : ∀ a, a < 11 → ∀ b, b < 11 → a ≠ b → (TX4 a).2.1 ≠ (TX4 b).2.1 := by decide +kernel
theorem tyX4_ok : ∀ k, k < 11 → parseFieldDescriptor (TX4 k).2.2.1 = some (tyX4 k) := by decide +kernel
set_option maxRecDepth 20000 in
theorem inG_X4 : ∀ w ∈ u_ws RX4 TX4 11, w ∈ gw := by
  show ∀ w ∈ [u_lay RX4 TX4 0, u_lay RX4 TX4 1, u_lay RX4 TX4 2, u_lay RX4 TX4 3, u_lay RX4 TX4 4, u_lay RX4 TX4 5, u_lay RX4 TX4 6, u_lay RX4 TX4 7, u_lay RX4 TX4 8, u_lay RX4 TX4 9, u_lay RX4 TX4 10], w ∈ gw
  exact List.forall_mem_cons.mpr ⟨gw_t1 215 rfl rfl, List.forall_mem_cons.mpr ⟨gw_t1 217 rfl rfl, List.forall_mem_cons.mpr ⟨gw_t1 219 rfl rfl, List.forall_mem_cons.mpr ⟨gw_t1 221 rfl rfl, List.forall_mem_cons.mpr ⟨gw_t1 223 rfl rfl, List.forall_mem_cons.mpr ⟨gw_t1 225 rfl rfl, List.forall_mem_cons.mpr ⟨gw_t1 227 rfl rfl, List.forall_mem_cons.mpr ⟨gw_t1 229 rfl rfl, List.forall_mem_cons.mpr ⟨gw_t1 231 rfl rfl, List.forall_mem_cons.mpr ⟨gw_t1 233 rfl rfl, List.forall_mem_cons.mpr ⟨gw_t1 235 rfl rfl, fun _ h => absurd h List.not_mem_nil⟩⟩⟩⟩⟩⟩⟩⟩⟩⟩⟩
theorem nmX6 : ∀ a, a < 12 → ∀ b, b < 12 → a ≠ b → (TX6 a).2.1 ≠ (TX6 b).2.1 := by decide +kernel
theorem tyX6_ok : ∀ k, k < 12 → parseFieldDescriptor (TX6 k).2.2.1 = some (tyX6 k) := by decide +kernel
set_option maxRecDepth 20000 in
theorem inG_X6 : ∀ w ∈ u_ws RX6 TX6 12, w ∈ gw := by
  show ∀ w ∈ [u_lay RX6 TX6 0, u_lay RX6 TX6 1, u_lay RX6 TX6 2, u_lay RX6 TX6 3, u_lay RX6 TX6 4, u_lay RX6 TX6 5, u_lay RX6 TX6 6, u_lay RX6 TX6 7, u_lay RX6 TX6 8, u_lay RX6 TX6 9, u_lay RX6 TX6 10, u_lay RX6 TX6 11], w ∈ gw
  exact List.forall_mem_cons.mpr ⟨gw_t2 23 rfl rfl, List.forall_mem_cons.mpr ⟨gw_t2 25 rfl rfl, List.forall_mem_cons.mpr ⟨gw_t2 27 rfl rfl, List.forall_mem_cons.mpr ⟨gw_t2 29 rfl rfl, List.forall_mem_cons.mpr ⟨gw_t2 31 rfl rfl, List.forall_mem_cons.mpr ⟨gw_t2 33 rfl rfl, List.forall_mem_cons.mpr ⟨gw_t2 35 rfl rfl, List.forall_mem_cons.mpr ⟨gw_t2 37 rfl rfl, List.forall_mem_cons.mpr ⟨gw_t2 39 rfl rfl, List.forall_mem_cons.mpr ⟨gw_t2 41 rfl rfl, List.forall_mem_cons.mpr ⟨gw_t2 43 rfl rfl, List.forall_mem_cons.mpr ⟨gw_t2 45 rfl rfl, fun _ h => absurd h List.not_mem_nil⟩⟩⟩⟩⟩⟩⟩⟩⟩⟩⟩⟩
theorem nmX7 : ∀ a, a < 6 → ∀ b, b < 6 → a ≠ b → (TX7 a).2.1 ≠ (TX7 b).2.1 := by decide +kernel
theorem tyX7_ok : ∀ k, k < 6 → parseFieldDescriptor (TX7 k).2.2.1 = some (tyX7 k) := by decide +kernel
set_option maxRecDepth 20000 in
theorem inG_X7 : ∀ w ∈ u_ws RX7 TX7 6, w ∈ gw := by
  show ∀ w ∈ [u_lay RX7 TX7 0, u_lay RX7 TX7 1, u_lay RX7 TX7 2, u_lay RX7 TX7 3, u_lay RX7 TX7 4, u_lay RX7 TX7 5], w ∈ gw
  exact List.forall_mem_cons.mpr ⟨gw_t1 182 rfl rfl, List.forall_mem_cons.mpr ⟨gw_t1 184 rfl rfl, List.forall_mem_cons.mpr ⟨gw_t1 186 rfl rfl, List.forall_mem_cons.mpr ⟨gw_t1 188 rfl rfl, List.forall_mem_cons.mpr ⟨gw_t1 190 rfl rfl, List.forall_mem_cons.mpr ⟨gw_t1 192 rfl rfl, fun _ h => absurd h List.not_mem_nil⟩⟩⟩⟩⟩⟩
theorem nmX8 : ∀ a, a < 3 → ∀ b, b < 3 → a ≠ b → (TX8 a).2.1 ≠ (TX8 b).2.1 := by decide +kernel
theorem tyX8_ok : ∀ k, k < 3 → parseFieldDescriptor (TX8 k).2.2.1 = some (tyX8 k) := by decide +kernel
set_option maxRecDepth 20000 in
theorem inG_X8 : ∀ w ∈ u_ws RX8 TX8 3, w ∈ gw := by
  show ∀ w ∈ [u_lay RX8 TX8 0, u_lay RX8 TX8 1, u_lay RX8 TX8 2], w ∈ gw
  exact List.forall_mem_cons.mpr ⟨gw_t1 112 rfl rfl, List.forall_mem_cons.mpr ⟨gw_t1 114 rfl rfl, List.forall_mem_cons.mpr ⟨gw_t1 116 rfl rfl, fun _ h => absurd h List.not_mem_nil⟩⟩⟩
theorem nmX10 : ∀ a, a < 2 → ∀ b, b < 2 → a ≠ b → (TX10 a).2.1 ≠ (TX10 b).2.1 := by decide +kernel
theorem tyX10_ok : ∀ k, k < 2 → parseFieldDescriptor (TX10 k).2.2.1 = some (tyX10 k) := by decide +kernel
set_option maxRecDepth 20000 in
theorem inG_X10 : ∀ w ∈ u_ws RX10 TX10 2, w ∈ gw := by
  show ∀ w ∈ [u_lay RX10 TX10 0, u_lay RX10 TX10 1], w ∈ gw
  exact List.forall_mem_cons.mpr ⟨gw_t1 60 rfl rfl, List.forall_mem_cons.mpr ⟨gw_t1 62 rfl rfl, fun _ h => absurd h List.not_mem_nil⟩⟩
theorem nmX11 : ∀ a, a < 4 → ∀ b, b < 4 → a ≠ b → (TX11 a).2.1 ≠ (TX11 b).2.1 := by decide +kernel
theorem tyX11_ok : ∀ k, k < 4 → parseFieldDescriptor (TX11 k).2.2.1 = some (tyX11 k) := by decide +kernel
set_option maxRecDepth 20000 in
theorem inG_X11 : ∀ w ∈ u_ws RX11 TX11 4, w ∈ gw := by
  show ∀ w ∈ [u_lay RX11 TX11 0, u_lay RX11 TX11 1, u_lay RX11 TX11 2, u_lay RX11 TX11 3], w ∈ gw
  exact List.forall_mem_cons.mpr ⟨gw_t2 52 rfl rfl, List.forall_mem_cons.mpr ⟨gw_t2 54 rfl rfl, List.forall_mem_cons.mpr ⟨gw_t2 56 rfl rfl, List.forall_mem_cons.mpr ⟨gw_t2 58 rfl rfl, fun _ h => absurd h List.not_mem_nil⟩⟩⟩⟩
theorem nmX12 : ∀ a, a < 53 → ∀ b, b < 53 → a ≠ b → (TX12 a).2.1 ≠ (TX12 b).2.1 := by decide +kernel
theorem tyX12_ok : ∀ k, k < 53 → parseFieldDescriptor (TX12 k).2.2.1 = some (tyX12 k) := by decide +kernel
set_option maxRecDepth 20000 in
theorem inG_X12 : ∀ w ∈ u_ws RX12 TX12 53, w ∈ gw := by
  show ∀ w ∈ [u_lay RX12 TX12 0, u_lay RX12 TX12 1, u_lay RX12 TX12 2, u_lay RX12 TX12 3, u_lay RX12 TX12 4, u_lay RX12 TX12 5, u_lay RX12 TX12 6, u_lay RX12 TX12 7, u_lay RX12 TX12 8, u_lay RX12 TX12 9, u_lay RX12 TX12 10, u_lay RX12 TX12 11, u_lay RX12 TX12 12, u_lay RX12 TX12 13, u_lay RX12 TX12 14, u_lay RX12 TX12 15, u_lay RX12 TX12 16, u_lay RX12 TX12 17, u_lay RX12 TX12 18, u_lay RX12 TX12 19, u_lay RX12 TX12 20, u_lay RX12 TX12 21, u_lay RX12 TX12 22, u_lay RX12 TX12 23, u_lay RX12 TX12 24, u_lay RX12 TX12 25, u_lay RX12 TX12 26, u_lay RX12 TX12 27, u_lay RX12 TX12 28, u_lay RX12 TX12 29, u_lay RX12 TX12 30, u_lay RX12 TX12 31, u_lay RX12 TX12 32, u_lay RX12 TX12 33, u_lay RX12 TX12 34, u_lay RX12 TX12 35, u_lay RX12 TX12 36, u_lay RX12 TX12 37, u_lay RX12 TX12 38, u_lay RX12 TX12 39, u_lay RX12 TX12 40, u_lay RX12 TX12 41, u_lay RX12 TX12 42, u_lay RX12 TX12 43, u_lay RX12 TX12 44, u_lay RX12 TX12 45, u_lay RX12 TX12 46, u_lay RX12 TX12 47, u_lay RX12 TX12 48, u_lay RX12 TX12 49, u_lay RX12 TX12 50, u_lay RX12 TX12 51, u_lay RX12 TX12 52], w ∈ gw
  exact List.forall_mem_cons.mpr ⟨gw_t5 181 rfl rfl, List.forall_mem_cons.mpr ⟨gw_t5 183 rfl rfl, List.forall_mem_cons.mpr ⟨gw_t5 185 rfl rfl, List.forall_mem_cons.mpr ⟨gw_t5 187 rfl rfl, List.forall_mem_cons.mpr ⟨gw_t5 189 rfl rfl, List.forall_mem_cons.mpr ⟨gw_t5 191 rfl rfl, List.forall_mem_cons.mpr ⟨gw_t5 193 rfl rfl, List.forall_mem_cons.mpr ⟨gw_t5 195 rfl rfl, List.forall_mem_cons.mpr ⟨gw_t5 197 rfl rfl, List.forall_mem_cons.mpr ⟨gw_t5 199 rfl rfl, List.forall_mem_cons.mpr ⟨gw_t5 201 rfl rfl, List.forall_mem_cons.mpr ⟨gw_t5 203 rfl rfl, List.forall_mem_cons.mpr ⟨gw_t5 205 rfl rfl, List.forall_mem_cons.mpr ⟨gw_t5 207 rfl rfl, List.forall_mem_cons.mpr ⟨gw_t5 209 rfl rfl, List.forall_mem_cons.mpr ⟨gw_t5 211 rfl rfl, List.forall_mem_cons.mpr ⟨gw_t5 213 rfl rfl, List.forall_mem_cons.mpr ⟨gw_t5 215 rfl rfl, List.forall_mem_cons.mpr ⟨gw_t5 217 rfl rfl, List.forall_mem_cons.mpr ⟨gw_t5 219 rfl rfl, List.forall_mem_cons.mpr ⟨gw_t5 221 rfl rfl, List.forall_mem_cons.mpr ⟨gw_t5 223 rfl rfl, List.forall_mem_cons.mpr ⟨gw_t5 225 rfl rfl, List.forall_mem_cons.mpr ⟨gw_t5 227 rfl rfl, List.forall_mem_cons.mpr ⟨gw_t5 229 rfl rfl, List.forall_mem_cons.mpr ⟨gw_t5 231 rfl rfl, List.forall_mem_cons.mpr ⟨gw_t5 233 rfl rfl, List.forall_mem_cons.mpr ⟨gw_t5 235 rfl rfl, List.forall_mem_cons.mpr ⟨gw_t5 237 rfl rfl, List.forall_mem_cons.mpr ⟨gw_t5 239 rfl rfl, List.forall_mem_cons.mpr ⟨gw_t6 1 rfl rfl, List.forall_mem_cons.mpr ⟨gw_t6 3 rfl rfl, List.forall_mem_cons.mpr ⟨gw_t6 5 rfl rfl, List.forall_mem_cons.mpr ⟨gw_t6 7 rfl rfl, List.forall_mem_cons.mpr ⟨gw_t6 9 rfl rfl, List.forall_mem_cons.mpr ⟨gw_t6 11 rfl rfl, List.forall_mem_cons.mpr ⟨gw_t6 13 rfl rfl, List.forall_mem_cons.mpr ⟨gw_t6 15 rfl rfl, List.forall_mem_cons.mpr ⟨gw_t6 17 rfl rfl, List.forall_mem_cons.mpr ⟨gw_t6 19 rfl rfl, List.forall_mem_cons.mpr ⟨gw_t6 21 rfl rfl, List.forall_mem_cons.mpr ⟨gw_t6 23 rfl rfl, List.forall_mem_cons.mpr ⟨gw_t6 25 rfl rfl, List.forall_mem_cons.mpr ⟨gw_t6 27 rfl rfl, List.forall_mem_cons.mpr ⟨gw_t6 29 rfl rfl, List.forall_mem_cons.mpr ⟨gw_t6 31 rfl rfl, List.forall_mem_cons.mpr ⟨gw_t6 33 rfl rfl, List.forall_mem_cons.mpr ⟨gw_t6 35 rfl rfl, List.forall_mem_cons.mpr ⟨gw_t6 37 rfl rfl, List.forall_mem_cons.mpr ⟨gw_t6 39 rfl rfl, List.forall_mem_cons.mpr ⟨gw_t6 41 rfl rfl, List.forall_mem_cons.mpr ⟨gw_t6 43 rfl rfl, List.forall_mem_cons.mpr ⟨gw_t6 45 rfl rfl, fun _ h => absurd h List.not_mem_nil⟩⟩⟩⟩⟩⟩⟩⟩⟩⟩⟩⟩⟩⟩⟩⟩⟩⟩⟩⟩⟩⟩⟩⟩⟩⟩⟩⟩⟩⟩⟩⟩⟩⟩⟩⟩⟩⟩⟩⟩⟩⟩⟩⟩⟩⟩⟩⟩⟩⟩⟩⟩⟩
abbrev vwCl : List vw_C := [(RX1, TX1, 9), (RX2, TX2, 4), (RX3, TX3, 6), (RX4, TX4, 11), (RX6, TX6, 12), (RX7, TX7, 6), (RX8, TX8, 3), (RX10, TX10, 2), (RX11, TX11, 4), (RX12, TX12, 53)]
def nlF : List (String × Nat × String × String × String × String) := [("HartBoard", 193, "HartBoard$Ram", "size", "I", "HartBoard"), ("HartBoard", 195, "HartBoard$Controller", "pending", "I", "HartBoard"), ("HartBoard", 198, "HartBoard$Controller", "claimed", "I", "HartBoard"), ("HartBoard", 81, "HartBoard$Line", "input", "LHartBoard$Bytes;", "HartBoard"), ("HartBoard", 178, "HartBoard$Line", "output", "LHartBoard$Bytes;", "HartBoard"), ("HartBoard", 95, "HartBoard$Bus", "ram", "LHartBoard$Ram;", "HartBoard"), ("HartBoard$Hart", 172, "HartBoard$Bus", "ram", "LHartBoard$Ram;", "HartBoard"), ("HartBoard$Controls", 122, "HartBoard$Bus", "controller", "LHartBoard$Controller;", "HartBoard"), ("HartBoard", 148, "HartBoard$Bus", "controller", "LHartBoard$Controller;", "HartBoard"), ("HartBoard", 77, "HartBoard$Bus", "line", "LHartBoard$Line;", "HartBoard"), ("HartBoard$Controls", 110, "HartBoard$Bus", "soft", "J", "HartBoard"), ("HartBoard$Controls", 113, "HartBoard$Bus", "compare", "J", "HartBoard"), ("HartBoard$Hart", 74, "HartBoard$Bus", "time", "J", "HartBoard"), ("HartBoard$Controls", 59, "HartBoard$Bus", "time", "J", "HartBoard"), ("HartBoard$Hart", 280, "HartBoard$Bus", "failed", "Z", "HartBoard"), ("HartBoard", 190, "HartBoard$Bus", "reservedSize", "I", "HartBoard"), ("HartBoard$Hart", 140, "HartBoard$Level", "tvec", "J", "HartBoard"), ("HartBoard$Controls", 145, "HartBoard$Level", "counters", "J", "HartBoard"), ("HartBoard$Hart", 120, "HartBoard$Level", "epc", "J", "HartBoard"), ("HartBoard$Hart", 129, "HartBoard$Level", "cause", "J", "HartBoard"), ("HartBoard$Hart", 131, "HartBoard$Level", "tval", "J", "HartBoard"), ("HartBoard$Hart", 117, "HartBoard$Controls", "machine", "LHartBoard$Level;", "HartBoard"), ("HartBoard$Hart", 113, "HartBoard$Controls", "supervisor", "LHartBoard$Level;", "HartBoard"), ("HartBoard$Pager", 70, "HartBoard$Controls", "status", "J", "HartBoard"), ("HartBoard$Hart", 110, "HartBoard$Controls", "medeleg", "J", "HartBoard"), ("HartBoard$Hart", 89, "HartBoard$Controls", "mideleg", "J", "HartBoard"), ("HartBoard$Hart", 82, "HartBoard$Controls", "mie", "J", "HartBoard"), ("HartBoard$Pager", 15, "HartBoard$Controls", "satp", "J", "HartBoard"), ("HartBoard$Hart", 71, "HartBoard$Controls", "cycle", "J", "HartBoard"), ("HartBoard$Hart", 60, "HartBoard$Controls", "retired", "J", "HartBoard"), ("HartBoard", 124, "HartBoard$Hart", "registers", "[J", "HartBoard"), ("HartBoard", 120, "HartBoard$Hart", "pc", "J", "HartBoard"), ("HartBoard", 130, "HartBoard$Hart", "privilege", "I", "HartBoard"), ("HartBoard", 181, "HartBoard$Hart", "traps", "I", "HartBoard"), ("HartBoard", 184, "HartBoard$Hart", "interrupts", "I", "HartBoard"), ("HartBoard", 187, "HartBoard$Hart", "latest", "I", "HartBoard")]
def nlM : List (String × Nat × MethodName × String) := [("HartBoard$Bus", 11, ⟨"HartBoard$Controller", "<init>", "()V"⟩, "HartBoard"), ("HartBoard$Bus", 20, ⟨"HartBoard$Line", "<init>", "()V"⟩, "HartBoard"), ("HartBoard$Controls", 13, ⟨"HartBoard$Level", "<init>", "()V"⟩, "HartBoard")]
def nl : List Cond := nlF.map (fun q => .fieldLinkNest q.1 q.2.1 q.2.2.1 q.2.2.2.1 q.2.2.2.2.1 q.2.2.2.2.2) ++ nlM.map (fun q => .methodLinkNest q.1 q.2.1 q.2.2.1 q.2.2.2)
theorem nl_on {w : Cond} (h : w ∈ nl) : w.onTables = true := by
  rcases List.mem_append.mp h with h | h
  · obtain ⟨q, -, rfl⟩ := List.mem_map.mp h; rfl
  · obtain ⟨q, -, rfl⟩ := List.mem_map.mp h; rfl
theorem nl_warm {s U : State} (hW : s.WarmedH U.vm) (hs : ∀ w ∈ nl, va_Nw w s) : ∀ w ∈ nl, va_Nw w U := by
  intro w h
  have h0 := hs w h
  rcases List.mem_append.mp h with h | h
  · obtain ⟨q, -, rfl⟩ := List.mem_map.mp h; exact va_Nw.warmF hW h0
  · obtain ⟨q, -, rfl⟩ := List.mem_map.mp h; exact va_Nw.warmM hW h0
/-- a state of a world: its ints, its longs, its arrays of ints and bytes, its arrays of longs, the arrays' lengths -/
abbrev St : Type := (Nat → Int32) × (Nat → Int64) × (Nat → Nat → Int32) × (Nat → Nat → Int64) × (Nat → Nat)
abbrev gI (u : St) (j : Nat) : Int32 := u.1 j
abbrev gL (u : St) (j : Nat) : Int64 := u.2.1 j
abbrev gA (u : St) (j : Nat) : Nat → Int32 := u.2.2.1 j
abbrev gB (u : St) (j : Nat) : Nat → Int64 := u.2.2.2.1 j
abbrev gN (u : St) (j : Nat) : Nat := u.2.2.2.2 j
def sI (u : St) (j : Nat) (v : Int32) : St := (upd u.1 j v, u.2)
def sL (u : St) (j : Nat) (v : Int64) : St := (u.1, vp_updL u.2.1 j v, u.2.2)
def sA (u : St) (j i : Nat) (v : Int32) : St := (u.1, u.2.1, (fun q => if q = j then upd (u.2.2.1 j) i v else u.2.2.1 q), u.2.2.2)
def sB (u : St) (j i : Nat) (v : Int64) : St := (u.1, u.2.1, u.2.2.1, (fun q => if q = j then vp_updL (u.2.2.2.1 j) i v else u.2.2.2.1 q), u.2.2.2.2)
def sR (u : St) (j k n : Nat) (f : Nat → Int32) : St := (u.1, u.2.1, (fun q => if q = j then f else u.2.2.1 q), u.2.2.2.1, (fun q => if q = k then n else u.2.2.2.2 q))
def rkn (j : Nat) : Int32 := match j with
  | 0 => 11
  | 1 => 3
  | 2 => 7
  | 3 => 9
  | 4 => 1
  | _ => 5
def RK (A : Nat → Prop) (U : State) (H : Heap) : Prop := ∃ t : Nat, va_Z "HartBoard$Hart" "RANKS" "[I" (.ref t) A U H ∧ va_T .int t 6 (fun j => .int (rkn j)) A U H
theorem RK.narrow {A B : Nat → Prop} {U : State} {H : Heap} (h : RK A U H) (hAB : ∀ q, B q → A q) : RK B U H := by
  obtain ⟨t, h1, h2⟩ := h
  exact ⟨t, h1.narrow hAB, h2.narrow hAB⟩
theorem RK.moved {A : Nat → Prop} {u U : State} {H : Heap} (hvm : u.vm.Alike U.vm) (h : RK A u H) : RK A U H := by
  obtain ⟨t, h1, h2⟩ := h
  exact ⟨t, h1.moved hvm, h2.moved hvm⟩
theorem RK.kept {A : Nat → Prop} {U : State} {H H1 : Heap} (h : RK A U H) (hq : ∀ a : Nat, a < H.size → ¬ A a → H1[a]? = H[a]?) : RK A U H1 := by
  obtain ⟨t, h1, h2⟩ := h
  exact ⟨t, h1.kept hq, h2.kept hq⟩
def KX (D : va_G) (cy : ClassId × ClassId × ClassId) (U : State) : Prop := va_K D vwCl [(cy.1, .byte), (cy.2.1, .int), (cy.2.2, .long)] U ∧ (∀ w ∈ nl, va_Nw w U) ∧ U.vm.findClass "[B" = some cy.1
def WX (Wd : (Nat → Nat) → St → va_W) (D : va_G) (cy : ClassId × ClassId × ClassId) (rr : Nat → Nat) (u : St) (A : Nat → Prop) (s : State) (H : Heap) (locs : List Loc) : Prop :=
  va_P D vwCl (Wd rr u) H ∧ va_D A (Wd rr u) ∧ va_S A s.heap H locs ∧ KX D cy s ∧ (∀ q, s.heap.size ≤ q → A q) ∧ RK A s s.heap
def CPre (Wd : (Nat → Nat) → St → va_W) (D : va_G) (cy : ClassId × ClassId × ClassId) (rr : Nat → Nat) (u : St) (sz : Nat) (U : State) : Prop :=
  U.heap.size = sz ∧ va_P D vwCl (Wd rr u) U.heap ∧ KX D cy U ∧ va_D (fun _ => True) (Wd rr u) ∧ RK (va_A (Wd rr u) sz) U U.heap
def CPost (Wd : (Nat → Nat) → St → va_W) (D : va_G) (rr : Nat → Nat) (u : St) (A : Nat → Prop) (t : State) : Prop := va_P D vwCl (Wd rr u) t.heap ∧ va_D A (Wd rr u)
def QC (rv : Option Value) (B : State → Prop) (A : Nat → Prop) : Array Value → State → Outcome → State → Prop := fun _ st oc t => (oc = .returned rv ∧ B t) ∧ va_F A st t
abbrev rmX (fr lo k : Nat) : Room := { frames := fr, cells := k, slots := k, locals := lo }
/-- a method over a world: from the state u it comes to u', its answer is rv, at most k cells of k slots are new -/
def MX (Wd : (Nat → Nat) → St → va_W) (D : va_G) (cy : ClassId × ClassId × ClassId) (l : Launch) (y : MethodName) (code : ByteArray) (maxL : Nat) (ret : Option FieldType) (fr lo k : Nat) (as : List Value) (u u' : St) (rv : Option Value) : Prop :=
  ∀ (rr : Nat → Nat) (sz : Nat), Met l y (.code y code maxL ret :: gw) (rmX fr lo k) (va_Pc as (CPre Wd D cy rr u sz)) (QC rv (fun t => ∃ rr', CPost Wd D rr' u' (va_A (Wd rr u) sz) t) (va_A (Wd rr u) sz)) k k (va_A (Wd rr u) sz)
section XW
variable {p : Program} {l : Launch} {e : Env} {R : Room} {s : State} {m : MethodId} {args : Array Value} {below : List Frame} {meth : Method} {c : Code} {H : Heap} {locs : List Loc} {cells slots : Nat} {Q : State → Prop}
variable {Wd : (Nat → Nat) → St → va_W} {D : va_G} {cy : ClassId × ClassId × ClassId} {rr : Nat → Nat} {u u' : St} {A : Nat → Prop}
abbrev Wx (Wd : (Nat → Nat) → St → va_W) (D : va_G) (p : Program) (l : Launch) (e : Env) (fr lo k : Nat) (s : State) (m : MethodId) (args : Array Value) (below : List Frame) (meth : Method) (c : Code) (A : Nat → Prop) (u' : St) (rv : Option Value) (H : Heap) (locs : List Loc) (cells : Nat) (pc : Nat) (ls : Array Slot) (st : List Value) : Prop :=
  W p l e (rmX fr lo k) s m args below meth c H locs cells cells (MQ below (QC rv (fun t => ∃ rr', CPost Wd D rr' u' A t) A) args s k k A) (F0 m pc ls st)
theorem blX {as : List Value} {sz : Nat} : FrameBlind (va_Pc as (CPre Wd D cy rr u sz)) := by
  intro a U g mk q
  obtain ⟨q0, q1, qP, qK, qD, qR⟩ := q
  exact ⟨q0, q1, qP, ⟨va_K.moved (u := U) (U := U.calling g mk a) (Vm.Alike.refl U.vm) qK.1, fun w hw => va_Nw.same (u := U) (U := U.calling g mk a) (nl_on hw) rfl (qK.2.1 w hw), qK.2.2⟩, qD, RK.moved (u := U) (U := U.calling g mk a) (Vm.Alike.refl U.vm) qR⟩
theorem freeX (w : WX Wd D cy rr u A s H locs) : ∀ q, va_A (Wd rr u) H.size q → A q := fun q h => h.elim (fun ⟨k, e, hk⟩ => w.2.1.2 k (q, e) hk) (fun h => w.2.2.2.2.1 q (Nat.le_trans w.2.2.1.1 h))
theorem preX (w : WX Wd D cy rr u A s H locs) {as : List Value} : ∀ U : State, U.heap = H → s.WarmedH U.vm → va_Pc as (CPre Wd D cy rr u H.size) as.toArray U := by
  intro U hU hW
  have hF := freeX w
  obtain ⟨hP, hD, hS, hK, hA, hR⟩ := w
  refine ⟨rfl, by rw [hU], by rw [hU]; exact hP, ⟨va_K.moved hW.alike hK.1, nl_warm hW hK.2.1, by rw [hW.alike.findClass]; exact hK.2.2⟩, hD.weaken (fun _ _ _ _ => trivial), ?_⟩
  rw [hU]
  exact ((hR.kept hS.2.1).moved hW.alike).narrow hF
theorem entX {y : MethodName} {code : ByteArray} {maxL : Nat} {ret : Option FieldType} {fr lo k : Nat} {as : List Value} {rv : Option Value} (hy : plainName y.cls = true) (hlen : (lg_sl as).length ≤ maxL)
    (body : ∀ (p : Program) (e : Env) (s : State) (m : MethodId) (args : Array Value) (below : List Frame) (meth : Method) (c : Code) (ls : Array Slot) (rr : Nat → Nat) (A : Nat → Prop), CallFix p m c code maxL s args gw y.cls → meth.sig.returnType = ret → meth.locks = false → lv_has ls maxL (lv_args 0 as) → WX Wd D cy rr u A s s.heap [] → Wx Wd D p l e fr lo k s m args below meth c A u' rv s.heap [] 0 0 ls []) : MX Wd D cy l y code maxL ret fr lo k as u u' rv := by
  intro rr sz
  refine Met.ofW (cc := code) (maxL := maxL) (ret := ret) hy rfl ?_
  intro p e s m args below meth c s₁ B hml hv
  obtain ⟨rfl, hsz, hP, hK, hD0, hR⟩ := hv
  subst hsz
  have hts := atoms_spec (ws := Cond.code y code maxL ret :: gw) B.pre
  have hown : s.vm.findClass y.cls = some m.cls := findClass_of_methodNamed B.named
  have hl := lv_entry as (n := maxL) hlen
  rw [lg_entry_eq]
  exact body p e s m as.toArray below meth c _ rr _ ⟨B.exec, B.bytes, hml, hown, fun w hw => hts w (List.mem_cons_of_mem _ hw)⟩ B.returns B.notSynchronized hl ⟨hP, hD0.self, va_S.rf, hK, fun q h => Or.inr h, hR⟩
theorem gV {own C : String} {idx : Nat} {y : MethodName} {code : ByteArray} {maxL : Nat} {ret : Option FieldType} (h1 : Cond.methodLink own idx y ∈ gw) (h2 : Cond.instanceMethod y ∈ gw) (h3 : Cond.selects C y y ∈ gw) (h5 : Cond.initialized C ∈ gw) (h4 : Cond.code y code maxL ret ∈ gw) : GoodIn gw (wsV own idx C y (.code y code maxL ret :: gw)) := by
  refine gw_app (fun w hw => ?_) (gw_in h4)
  simp only [List.mem_cons, List.not_mem_nil, or_false] at hw
  rcases hw with rfl | rfl | rfl | rfl
  · exact h1
  · exact h2
  · exact h3
  · exact h5
theorem callQ {pc : Nat} {ls : Array Slot} {rest st0 : List Value} {a : Array Value} {A0 A1 : Nat → Prop} {H0 : Heap} {mc ms : Nat} {free : Addr → Prop} {rv : Option Value} {B : State → Prop} (hr : va_Run p l e R s m args below meth c H locs cells slots mc ms (F0 m pc ls st0) rest (QC rv B A1 a) free) (hS : va_S A0 H0 H locs) (hA : ∀ q, q < H.size → A1 q → A0 q) (hf : ∀ q, free q → A0 q)
    (kk : ∀ (t : State) (H1 : Heap) (locs1 : List Loc), t.heap = H1 → B t → H.size ≤ H1.size → (∀ q : Nat, q < H.size → ¬ A1 q → H1[q]? = H[q]?) → va_S A0 H0 H1 locs1 → W p l e R s m args below meth c H1 locs1 (cells + mc) (slots + ms) Q (F0 m (pc + 3) ls (rv.toList ++ rest))) : W p l e R s m args below meth c H locs cells slots Q (F0 m pc ls st0) := by
  intro T hT X
  obtain ⟨v, st₀, t, T', L, h0, X', hL, e1, e2, ⟨⟨hv, hb⟩, hz, hk⟩, st⟩ := hr T hT X
  cases hv
  rw [h0] at hz hk
  obtain ⟨t2, a1, b1⟩ := kk t T'.heap (locs ++ L) e1.symm hb (by rw [e1]; exact hz) (fun q h1 h2 => by rw [e1]; exact hk q h1 h2)
    ⟨Nat.le_trans hS.1 (by rw [e1]; exact hz), fun q h1 h2 => by rw [e1, hk q (Nat.lt_of_lt_of_le h1 hS.1) (fun z => h2 (hA q (Nat.lt_of_lt_of_le h1 hS.1) z))]; exact hS.2.1 q h1 h2, fun q hq => by
      rcases List.mem_append.mp hq with h | h
      · exact hS.2.2 q h
      · exact hf _ (hL q h)⟩ T' rfl X'
  exact ⟨t2, st t2 a1, b1⟩
theorem callR0 {pc : Nat} {ls : Array Slot} {rest st0 : List Value} {a : Array Value} {k : Nat} {rv : Option Value} (w : WX Wd D cy rr u A s H locs) (hr : va_Run p l e R s m args below meth c H locs cells slots k k (F0 m pc ls st0) rest (QC rv (fun t => ∃ rr', CPost Wd D rr' u' (va_A (Wd rr u) H.size) t) (va_A (Wd rr u) H.size) a) (va_A (Wd rr u) H.size))
    (kk : ∀ (H1 : Heap) (locs1 : List Loc) (rr1 : Nat → Nat), WX Wd D cy rr1 u' A s H1 locs1 → W p l e R s m args below meth c H1 locs1 (cells + k) (slots + k) Q (F0 m (pc + 3) ls (rv.toList ++ rest))) : W p l e R s m args below meth c H locs cells slots Q (F0 m pc ls st0) := by
  have hF := freeX w
  obtain ⟨hP, hD, hS, hK, hA, hR⟩ := w
  refine callQ hr hS (fun q _ h => hF q h) hF (fun t H1 locs1 ht hB hz hk1 hS1 => ?_)
  obtain ⟨rr1, hP1, hD1⟩ := hB
  rw [ht] at hP1
  exact kk H1 locs1 rr1 ⟨hP1, hD1.weaken (fun _ q _ h => hF q.1 h), hS1, hK, hA, hR⟩
variable {y : MethodName} {code cc : ByteArray} {maxL nL n index fr lo k : Nat} {ret : Option FieldType} {As rest st : List Value} {own C : String} {b pc : Nat} {ls : Array Slot}
theorem callXV {rv : Option Value} (E : CallFix p m c cc nL s args gw own) (hM : MX Wd D cy l y code maxL ret fr lo k (.ref b :: As) u u' rv) (h1 : Cond.methodLink own index y ∈ gw) (h2 : Cond.instanceMethod y ∈ gw) (h3 : Cond.selects C y y ∈ gw) (h5 : Cond.initialized C ∈ gw) (h4 : Cond.code y code maxL ret ∈ gw) (hC : y.cls = C) (hd : hdOK y n) (hn : As.length = n) (hsize : ls.size = nL) (hstack : st = As.reverse ++ .ref b :: rest) (hroom : (rest.map fun v => v.category).sum ≤ 8) (hR : fr + 1 ≤ R.frames ∧ 8 + (maxL + 11) + lo ≤ R.locals) (hc : cells + k ≤ R.cells ∧ slots + k ≤ R.slots)
    (w : WX Wd D cy rr u A s H locs) (hrec : ∃ cell : Cell, H[b]? = some cell ∧ cell.vm.isStatics = false ∧ s.vm.findClass C = some cell.cls) (hdg : decode cc pc = .ok (.invokevirtual index, 3))
    (kk : ∀ (H1 : Heap) (locs1 : List Loc) (rr1 : Nat → Nat), WX Wd D cy rr1 u' A s H1 locs1 → W p l e R s m args below meth c H1 locs1 (cells + k) (slots + k) Q (F0 m (pc + 3) ls (rv.toList ++ rest))) : W p l e R s m args below meth c H locs cells slots Q (F0 m pc ls st) :=
  callR0 w (va_runV (As := As) (rest := rest) E (hM rr H.size) (cwV n E.2.2.2.2 (gV h1 h2 h3 h5 h4) rfl rfl rfl ⟨hC, hd⟩ hR) ⟨blX, hrec, preX w⟩ rfl hn hsize hstack (lv_room hroom) hdg hc) kk
theorem callXS {rv : Option Value} (E : CallFix p m c cc nL s args gw own) (hM : MX Wd D cy l y code maxL ret fr lo k As u u' rv) (h1 : Cond.methodLink own index y ∈ gw) (h2 : Cond.static y ∈ gw) (h3 : Cond.initialized y.cls ∈ gw) (h4 : Cond.code y code maxL ret ∈ gw) (hd : hdOK y n) (hn : As.length = n) (hsize : ls.size = nL) (hstack : st = As.reverse ++ rest) (hroom : (rest.map fun v => v.category).sum ≤ 8) (hR : fr + 1 ≤ R.frames ∧ 8 + (maxL + 11) + lo ≤ R.locals) (hc : cells + k ≤ R.cells ∧ slots + k ≤ R.slots)
    (w : WX Wd D cy rr u A s H locs) (hdg : decode cc pc = .ok (.invokestatic index, 3))
    (kk : ∀ (H1 : Heap) (locs1 : List Loc) (rr1 : Nat → Nat), WX Wd D cy rr1 u' A s H1 locs1 → W p l e R s m args below meth c H1 locs1 (cells + k) (slots + k) Q (F0 m (pc + 3) ls (rv.toList ++ rest))) : W p l e R s m args below meth c H locs cells slots Q (F0 m pc ls st) :=
  callR0 w (va_runS (As := As) (rest := rest) E (hM rr H.size) (va_cwS n E.2.2.2.2 (gS h1 h2 h3 h4) rfl rfl rfl hd hR) ⟨blX, preX w⟩ rfl hn hsize hstack (lv_room hroom) hdg hc) kk
/-- the same, the answer a value or none, in the forms that the rows ask for -/
theorem cV1 {rv : Value} (E : CallFix p m c cc nL s args gw own) (hM : MX Wd D cy l y code maxL ret fr lo 0 (.ref b :: As) u u' (some rv)) (h1 : Cond.methodLink own index y ∈ gw) (h2 : Cond.instanceMethod y ∈ gw) (h3 : Cond.selects C y y ∈ gw) (h5 : Cond.initialized C ∈ gw) (h4 : Cond.code y code maxL ret ∈ gw) (hC : y.cls = C) (hd : hdOK y n) (hn : As.length = n) (hsize : ls.size = nL) (hstack : st = As.reverse ++ .ref b :: rest) (hroom : (rest.map fun v => v.category).sum ≤ 8) (hR : fr + 1 ≤ R.frames ∧ 8 + (maxL + 11) + lo ≤ R.locals) (hc : cells ≤ R.cells ∧ slots ≤ R.slots)
    (w : WX Wd D cy rr u A s H locs) (hrec : ∃ cell : Cell, H[b]? = some cell ∧ cell.vm.isStatics = false ∧ s.vm.findClass C = some cell.cls) (hdg : decode cc pc = .ok (.invokevirtual index, 3))
    (kk : ∀ (H : Heap) (locs : List Loc) (rr : Nat → Nat), WX Wd D cy rr u' A s H locs → W p l e R s m args below meth c H locs cells slots Q (F0 m (pc + 3) ls (rv :: rest))) : W p l e R s m args below meth c H locs cells slots Q (F0 m pc ls st) :=
  callXV E hM h1 h2 h3 h5 h4 hC hd hn hsize hstack hroom hR hc w hrec hdg kk
theorem cV0 (E : CallFix p m c cc nL s args gw own) (hM : MX Wd D cy l y code maxL ret fr lo 0 (.ref b :: As) u u' none) (h1 : Cond.methodLink own index y ∈ gw) (h2 : Cond.instanceMethod y ∈ gw) (h3 : Cond.selects C y y ∈ gw) (h5 : Cond.initialized C ∈ gw) (h4 : Cond.code y code maxL ret ∈ gw) (hC : y.cls = C) (hd : hdOK y n) (hn : As.length = n) (hsize : ls.size = nL) (hstack : st = As.reverse ++ .ref b :: rest) (hroom : (rest.map fun v => v.category).sum ≤ 8) (hR : fr + 1 ≤ R.frames ∧ 8 + (maxL + 11) + lo ≤ R.locals) (hc : cells ≤ R.cells ∧ slots ≤ R.slots)
    (w : WX Wd D cy rr u A s H locs) (hrec : ∃ cell : Cell, H[b]? = some cell ∧ cell.vm.isStatics = false ∧ s.vm.findClass C = some cell.cls) (hdg : decode cc pc = .ok (.invokevirtual index, 3))
    (kk : ∀ (H : Heap) (locs : List Loc) (rr : Nat → Nat), WX Wd D cy rr u' A s H locs → W p l e R s m args below meth c H locs cells slots Q (F0 m (pc + 3) ls rest)) : W p l e R s m args below meth c H locs cells slots Q (F0 m pc ls st) :=
  callXV E hM h1 h2 h3 h5 h4 hC hd hn hsize hstack hroom hR hc w hrec hdg kk
theorem cS1 {rv : Value} (E : CallFix p m c cc nL s args gw own) (hM : MX Wd D cy l y code maxL ret fr lo 0 As u u' (some rv)) (h1 : Cond.methodLink own index y ∈ gw) (h2 : Cond.static y ∈ gw) (h3 : Cond.initialized y.cls ∈ gw) (h4 : Cond.code y code maxL ret ∈ gw) (hd : hdOK y n) (hn : As.length = n) (hsize : ls.size = nL) (hstack : st = As.reverse ++ rest) (hroom : (rest.map fun v => v.category).sum ≤ 8) (hR : fr + 1 ≤ R.frames ∧ 8 + (maxL + 11) + lo ≤ R.locals) (hc : cells ≤ R.cells ∧ slots ≤ R.slots)
    (w : WX Wd D cy rr u A s H locs) (hdg : decode cc pc = .ok (.invokestatic index, 3))
    (kk : ∀ (H : Heap) (locs : List Loc) (rr : Nat → Nat), WX Wd D cy rr u' A s H locs → W p l e R s m args below meth c H locs cells slots Q (F0 m (pc + 3) ls (rv :: rest))) : W p l e R s m args below meth c H locs cells slots Q (F0 m pc ls st) :=
  callXS E hM h1 h2 h3 h4 hd hn hsize hstack hroom hR hc w hdg kk
theorem cV0k (E : CallFix p m c cc nL s args gw own) (hM : MX Wd D cy l y code maxL ret fr lo k (.ref b :: As) u u' none) (h1 : Cond.methodLink own index y ∈ gw) (h2 : Cond.instanceMethod y ∈ gw) (h3 : Cond.selects C y y ∈ gw) (h5 : Cond.initialized C ∈ gw) (h4 : Cond.code y code maxL ret ∈ gw) (hC : y.cls = C) (hd : hdOK y n) (hn : As.length = n) (hsize : ls.size = nL) (hstack : st = As.reverse ++ .ref b :: rest) (hroom : (rest.map fun v => v.category).sum ≤ 8) (hR : fr + 1 ≤ R.frames ∧ 8 + (maxL + 11) + lo ≤ R.locals) (hc : cells + k ≤ R.cells ∧ slots + k ≤ R.slots)
    (w : WX Wd D cy rr u A s H locs) (hrec : ∃ cell : Cell, H[b]? = some cell ∧ cell.vm.isStatics = false ∧ s.vm.findClass C = some cell.cls) (hdg : decode cc pc = .ok (.invokevirtual index, 3))
    (kk : ∀ (H : Heap) (locs : List Loc) (rr : Nat → Nat), WX Wd D cy rr u' A s H locs → W p l e R s m args below meth c H locs (cells + k) (slots + k) Q (F0 m (pc + 3) ls rest)) : W p l e R s m args below meth c H locs cells slots Q (F0 m pc ls st) :=
  callXV E hM h1 h2 h3 h5 h4 hC hd hn hsize hstack hroom hR hc w hrec hdg kk
theorem cV1k {rv : Value} (E : CallFix p m c cc nL s args gw own) (hM : MX Wd D cy l y code maxL ret fr lo k (.ref b :: As) u u' (some rv)) (h1 : Cond.methodLink own index y ∈ gw) (h2 : Cond.instanceMethod y ∈ gw) (h3 : Cond.selects C y y ∈ gw) (h5 : Cond.initialized C ∈ gw) (h4 : Cond.code y code maxL ret ∈ gw) (hC : y.cls = C) (hd : hdOK y n) (hn : As.length = n) (hsize : ls.size = nL) (hstack : st = As.reverse ++ .ref b :: rest) (hroom : (rest.map fun v => v.category).sum ≤ 8) (hR : fr + 1 ≤ R.frames ∧ 8 + (maxL + 11) + lo ≤ R.locals) (hc : cells + k ≤ R.cells ∧ slots + k ≤ R.slots)
    (w : WX Wd D cy rr u A s H locs) (hrec : ∃ cell : Cell, H[b]? = some cell ∧ cell.vm.isStatics = false ∧ s.vm.findClass C = some cell.cls) (hdg : decode cc pc = .ok (.invokevirtual index, 3))
    (kk : ∀ (H : Heap) (locs : List Loc) (rr : Nat → Nat), WX Wd D cy rr u' A s H locs → W p l e R s m args below meth c H locs (cells + k) (slots + k) Q (F0 m (pc + 3) ls (rv :: rest))) : W p l e R s m args below meth c H locs cells slots Q (F0 m pc ls st) :=
  callXV E hM h1 h2 h3 h5 h4 hC hd hn hsize hstack hroom hR hc w hrec hdg kk
theorem hcc {a k K fr lo : Nat} (h : a + k ≤ K) : a ≤ (rmX fr lo K).cells ∧ a ≤ (rmX fr lo K).slots := ⟨Nat.le_of_add_right_le h, Nat.le_of_add_right_le h⟩
theorem hcb {a b k k6 K fr lo : Nat} (h : a + k ≤ K) (hk : k = b + k6) : a + b ≤ (rmX fr lo K).cells ∧ a + b ≤ (rmX fr lo K).slots := ⟨by show a + b ≤ K; omega, by show a + b ≤ K; omega⟩
theorem hcd {a b k k6 K : Nat} (h : a + k ≤ K) (hk : k = b + k6) : a + b + k6 ≤ K := by omega
def ak0 (n : Nat) (o : Option (St × Nat)) : Option (St × Nat) := o.map (fun q => (q.1, n + q.2))
def ak1 {α : Type} (n : Nat) (o : Option (α × St × Nat)) : Option (α × St × Nat) := o.map (fun q => (q.1, q.2.1, n + q.2.2))
theorem ak0_of {n k : Nat} {o : Option (St × Nat)} {v : St} (h : ak0 n o = some (v, k)) : ∃ k6, o = some (v, k6) ∧ k = n + k6 := by
  cases o with
  | none => cases h
  | some q => cases h; exact ⟨q.2, rfl, rfl⟩
theorem ak1_of {α : Type} {n k : Nat} {o : Option (α × St × Nat)} {r : α} {v : St} (h : ak1 n o = some (r, v, k)) : ∃ k6, o = some (r, v, k6) ∧ k = n + k6 := by
  cases o with
  | none => cases h
  | some q => cases h; exact ⟨q.2.2, rfl, rfl⟩
theorem qX {rv : Option Value} {v : Option Value} (w : WX Wd D cy rr u' A s H locs) (hv : v = rv) : ∀ t : State, t.heap = H → s.WarmedH t.vm → QC rv (fun t => ∃ rr', CPost Wd D rr' u' A t) A args s (.returned v) t := fun t ht _ => ⟨⟨by rw [hv], rr, by rw [ht]; exact w.1, w.2.1⟩, w.2.2.1.F ht⟩
theorem xret_i {x r : Int32} (E : CallFix p m c cc nL s args gw own) (hr : meth.sig.returnType = some .int) (hk : meth.locks = false) (w : WX Wd D cy rr u A s H locs) (hc : cells ≤ k) (h : x = r) (hu : u = u') (hdg : decode cc pc = .ok (.ireturn, 1)) : Wx Wd D p l e fr lo k s m args below meth c A u' (some (.int r)) H locs cells pc ls [.int x] := by
  subst h; subst hu
  exact W.widen hc hc (W.iret E.1 E.2.1 hr (qX w rfl) w.2.2.1.2.2 hdg hk)
theorem xret_z {x r : Int32} (E : CallFix p m c cc nL s args gw own) (hr : meth.sig.returnType = some .boolean) (hk : meth.locks = false) (hn : narrow .boolean (.int x) = .int x) (w : WX Wd D cy rr u A s H locs) (hc : cells ≤ k) (h : x = r) (hu : u = u') (hdg : decode cc pc = .ok (.ireturn, 1)) : Wx Wd D p l e fr lo k s m args below meth c A u' (some (.int r)) H locs cells pc ls [.int x] := by
  subst h; subst hu
  exact W.widen hc hc (W.zret E.1 E.2.1 hr hn (qX w rfl) w.2.2.1.2.2 hdg hk)
theorem xret_l {x r : Int64} (E : CallFix p m c cc nL s args gw own) (hr : meth.sig.returnType = some .long) (hk : meth.locks = false) (w : WX Wd D cy rr u A s H locs) (hc : cells ≤ k) (h : x = r) (hu : u = u') (hdg : decode cc pc = .ok (.lreturn, 1)) : Wx Wd D p l e fr lo k s m args below meth c A u' (some (.long r)) H locs cells pc ls [.long x] := by
  subst h; subst hu
  exact W.widen hc hc (W.lret E.1 E.2.1 hr (qX w rfl) w.2.2.1.2.2 hdg hk)
theorem xret_v (E : CallFix p m c cc nL s args gw own) (hr : meth.sig.returnType = none) (hk : meth.locks = false) (w : WX Wd D cy rr u A s H locs) (hc : cells ≤ k) (hu : u = u') (hdg : decode cc pc = .ok (.return_, 1)) : Wx Wd D p l e fr lo k s m args below meth c A u' none H locs cells pc ls [] := by
  subst hu
  exact W.widen hc hc (W.vret E.1 E.2.1 hr (qX w rfl) w.2.2.1.2.2 hdg hk)
end XW
abbrev wC (cy : ClassId × ClassId × ClassId) (ad : Nat → Nat) (rr : Nat → Nat) (u : St) : va_W := [(ad 0, .inr (8, [.ref (ad 1), .ref (ad 3), .ref (ad 15), .ref (ad 18)])), (ad 1, .inr (1, [.int (gI u 0), .ref (rr 2), .int (gI u 1), .int (gI u 2)])), (rr 2, .inl (cy.1, gN u 0, .inl (gA u 0))), (ad 3, .inr (0, [.ref (ad 4), .ref (ad 6), .ref (ad 10), .long (gL u 0), .long (gL u 1), .long (gL u 2), .int (gI u 3), .long (gL u 3), .int (gI u 4)])), (ad 4, .inr (7, [.int (gI u 5), .ref (ad 5)])), (ad 5, .inl (cy.2.2, gN u 1, .inr (.inl (gB u 0)))), (ad 6, .inr (2, [.ref (ad 7), .ref (ad 8), .ref (ad 9), .int (gI u 6), .int (gI u 7), .int (gI u 8)])), (ad 7, .inl (cy.2.1, gN u 2, .inl (gA u 1))), (ad 8, .inl (cy.2.1, gN u 3, .inl (gA u 2))), (ad 9, .inl (cy.2.1, gN u 4, .inl (gA u 3))), (ad 10, .inr (6, [.ref (ad 11), .ref (ad 13), .int (gI u 9)])), (ad 11, .inr (1, [.int (gI u 10), .ref (rr 12), .int (gI u 11), .int (gI u 12)])), (rr 12, .inl (cy.1, gN u 5, .inl (gA u 4))), (ad 13, .inr (1, [.int (gI u 13), .ref (rr 14), .int (gI u 14), .int (gI u 15)])), (rr 14, .inl (cy.1, gN u 6, .inl (gA u 5))), (ad 15, .inr (3, [.ref (ad 3), .ref (ad 16), .ref (ad 17), .long (gL u 4), .long (gL u 5), .long (gL u 6), .long (gL u 7), .long (gL u 8), .long (gL u 9), .long (gL u 10), .long (gL u 11)])), (ad 16, .inr (5, [.long (gL u 12), .long (gL u 13), .long (gL u 14), .long (gL u 15), .long (gL u 16), .long (gL u 17)])), (ad 17, .inr (5, [.long (gL u 18), .long (gL u 19), .long (gL u 20), .long (gL u 21), .long (gL u 22), .long (gL u 23)])), (ad 18, .inr (4, [.ref (ad 3), .ref (ad 15), .ref (ad 19), .long (gL u 24), .int (gI u 16), .int (gI u 17), .long (gL u 25), .int (gI u 18), .long (gL u 26), .int (gI u 19), .int (gI u 20), .int (gI u 21)])), (ad 19, .inl (cy.2.2, gN u 7, .inr (.inl (gB u 1))))]
abbrev wC2 (cy : ClassId × ClassId × ClassId) (ad : Nat → Nat) (rr : Nat → Nat) (u : St) : va_W := [(ad 0, .inr (8, [.ref (ad 1), .ref (ad 3), .ref (ad 15), .ref (ad 18)])), (ad 1, .inr (1, [.int (gI u 0), .ref (rr 2), .int (gI u 1), .int (gI u 2)])), (rr 2, .inl (cy.1, gN u 0, .inl (gA u 0))), (ad 3, .inr (0, [.ref (ad 4), .ref (ad 6), .ref (ad 10), .long (gL u 0), .long (gL u 1), .long (gL u 2), .int (gI u 3), .long (gL u 3), .int (gI u 4)])), (ad 4, .inr (7, [.int (gI u 5), .ref (ad 5)])), (ad 5, .inl (cy.2.2, gN u 1, .inr (.inl (gB u 0)))), (ad 6, .inr (2, [.ref (ad 7), .ref (ad 8), .ref (ad 9), .int (gI u 6), .int (gI u 7), .int (gI u 8)])), (ad 7, .inl (cy.2.1, gN u 2, .inl (gA u 1))), (ad 8, .inl (cy.2.1, gN u 3, .inl (gA u 2))), (ad 9, .inl (cy.2.1, gN u 4, .inl (gA u 3))), (ad 10, .inr (6, [.ref (ad 11), .ref (ad 13), .int (gI u 9)])), (ad 11, .inr (1, [.int (gI u 10), .ref (rr 12), .int (gI u 11), .int (gI u 12)])), (rr 12, .inl (cy.1, gN u 5, .inl (gA u 4))), (ad 13, .inr (1, [.int (gI u 13), .ref (rr 14), .int (gI u 14), .int (gI u 15)])), (rr 14, .inl (cy.1, gN u 6, .inl (gA u 5))), (ad 15, .inr (3, [.ref (ad 3), .ref (ad 16), .ref (ad 17), .long (gL u 4), .long (gL u 5), .long (gL u 6), .long (gL u 7), .long (gL u 8), .long (gL u 9), .long (gL u 10), .long (gL u 11)])), (ad 16, .inr (5, [.long (gL u 12), .long (gL u 13), .long (gL u 14), .long (gL u 15), .long (gL u 16), .long (gL u 17)])), (ad 17, .inr (5, [.long (gL u 18), .long (gL u 19), .long (gL u 20), .long (gL u 21), .long (gL u 22), .long (gL u 23)])), (ad 18, .inr (4, [.ref (ad 3), .ref (ad 15), .ref (ad 19), .long (gL u 24), .int (gI u 16), .int (gI u 17), .long (gL u 25), .int (gI u 18), .long (gL u 26), .int (gI u 19), .int (gI u 20), .int (gI u 21)])), (ad 19, .inl (cy.2.2, gN u 7, .inr (.inl (gB u 1)))), (rr 20, .inl (cy.1, gN u 8, .inl (gA u 6)))]
abbrev wM (cy : ClassId × ClassId × ClassId) (ad : Nat → Nat) (rr : Nat → Nat) (u : St) : va_W := [(ad 0, .inr (9, [.int (gI u 0), .int (gI u 1), .ref (ad 1), .ref (ad 2), .long (gL u 0), .int (gI u 2), .long (gL u 1), .int (gI u 3), .int (gI u 4), .long (gL u 2), .long (gL u 3), .ref (ad 3), .int (gI u 5), .int (gI u 6), .ref (ad 4), .ref (ad 5), .int (gI u 7), .ref (ad 6), .int (gI u 8), .ref (ad 7), .int (gI u 9), .int (gI u 10), .ref (ad 8), .int (gI u 11), .int (gI u 12), .long (gL u 4), .long (gL u 5), .long (gL u 6), .long (gL u 7), .long (gL u 8), .long (gL u 9), .long (gL u 10), .long (gL u 11), .long (gL u 12), .long (gL u 13), .long (gL u 14), .long (gL u 15), .long (gL u 16), .long (gL u 17), .long (gL u 18), .long (gL u 19), .long (gL u 20), .long (gL u 21), .long (gL u 22), .long (gL u 23), .int (gI u 13), .int (gI u 14), .int (gI u 15), .int (gI u 16), .long (gL u 24), .long (gL u 25), .int (gI u 17), .long (gL u 26)])), (ad 1, .inl (cy.1, gN u 0, .inl (gA u 0))), (ad 2, .inl (cy.2.2, gN u 1, .inr (.inl (gB u 0)))), (ad 3, .inl (cy.2.1, gN u 2, .inl (gA u 1))), (ad 4, .inl (cy.2.1, gN u 3, .inl (gA u 2))), (ad 5, .inl (cy.2.1, gN u 4, .inl (gA u 3))), (ad 6, .inl (cy.1, gN u 5, .inl (gA u 4))), (ad 7, .inl (cy.1, gN u 6, .inl (gA u 5))), (ad 8, .inl (cy.1, gN u 7, .inl (gA u 6)))]
