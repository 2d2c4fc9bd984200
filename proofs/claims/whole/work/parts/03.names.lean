def RX0 : String := "WireBench$Arrival"
def TX0 : u_T := fun k => match k with
  | 0 => ("WireBench$Arrival", "due", "I", false)
  | 1 => ("WireBench$Arrival", "net", "I", false)
  | 2 => ("WireBench$Arrival", "station", "I", false)
  | 3 => ("WireBench$Arrival", "goal", "I", false)
  | 4 => ("WireBench$Arrival", "number", "I", false)
  | 5 => ("WireBench$Arrival", "from", "I", false)
  | 6 => ("WireBench$Arrival", "whole", "I", false)
  | 7 => ("WireBench$Arrival", "size", "I", false)
  | _ => ("WireBench$Arrival", "start", "I", false)
def tyX0 : Nat → FieldType := fun k => match k with
  | 0 => .int
  | 1 => .int
  | 2 => .int
  | 3 => .int
  | 4 => .int
  | 5 => .int
  | 6 => .int
  | 7 => .int
  | _ => .int
theorem nmX0 : ∀ a, a < 9 → ∀ b, b < 9 → a ≠ b → (TX0 a).2.1 ≠ (TX0 b).2.1 := by decide +kernel
theorem tyX0_ok : ∀ k, k < 9 → parseFieldDescriptor (TX0 k).2.2.1 = some (tyX0 k) := by decide +kernel
def RX1 : String := "WireBench$Net"
def TX1 : u_T := fun k => match k with
  | 0 => ("WireBench$Net", "largest", "I", false)
  | 1 => ("WireBench$Net", "delay", "I", false)
  | 2 => ("WireBench$Net", "up", "Z", false)
  | 3 => ("WireBench$Net", "frameCount", "I", false)
  | 4 => ("WireBench$Net", "schedule", "[B", true)
  | 5 => ("WireBench$Net", "firstFate", "I", false)
  | _ => ("WireBench$Net", "fateCount", "I", false)
def tyX1 : Nat → FieldType := fun k => match k with
  | 0 => .int
  | 1 => .int
  | 2 => .boolean
  | 3 => .int
  | 4 => .array .byte
  | 5 => .int
  | _ => .int
theorem nmX1 : ∀ a, a < 7 → ∀ b, b < 7 → a ≠ b → (TX1 a).2.1 ≠ (TX1 b).2.1 := by decide +kernel
theorem tyX1_ok : ∀ k, k < 7 → parseFieldDescriptor (TX1 k).2.2.1 = some (tyX1 k) := by decide +kernel
def RX2 : String := "WireBench"
def TX2 : u_T := fun k => match k with
  | 0 => ("WireBench", "nets", "[LWireBench$Net;", true)
  | 1 => ("WireBench", "netCount", "I", false)
  | 2 => ("WireBench", "time", "I", false)
  | 3 => ("WireBench", "arrivals", "[LWireBench$Arrival;", true)
  | 4 => ("WireBench", "arrivalCount", "I", false)
  | 5 => ("WireBench", "taken", "LWireBench$Arrival;", false)
  | 6 => ("WireBench", "anyTaken", "Z", false)
  | 7 => ("WireBench", "draft", "LWireBench$Arrival;", true)
  | 8 => ("WireBench", "ring", "[B", true)
  | 9 => ("WireBench", "payloadStart", "I", false)
  | _ => ("WireBench", "payloadSize", "I", false)
def tyX2 : Nat → FieldType := fun k => match k with
  | 0 => .array (.object "WireBench$Net")
  | 1 => .int
  | 2 => .int
  | 3 => .array (.object "WireBench$Arrival")
  | 4 => .int
  | 5 => .object "WireBench$Arrival"
  | 6 => .boolean
  | 7 => .object "WireBench$Arrival"
  | 8 => .array .byte
  | 9 => .int
  | _ => .int
theorem nmX2 : ∀ a, a < 11 → ∀ b, b < 11 → a ≠ b → (TX2 a).2.1 ≠ (TX2 b).2.1 := by decide +kernel
theorem tyX2_ok : ∀ k, k < 11 → parseFieldDescriptor (TX2 k).2.2.1 = some (tyX2 k) := by decide +kernel
def RX3 : String := "WireBenchModel"
def TX3 : u_T := fun k => match k with
  | 0 => ("WireBenchModel", "code", "I", false)
  | 1 => ("WireBenchModel", "time", "I", false)
  | 2 => ("WireBenchModel", "nets", "I", false)
  | 3 => ("WireBenchModel", "largest", "[I", true)
  | 4 => ("WireBenchModel", "delay", "[I", true)
  | 5 => ("WireBenchModel", "up", "[Z", true)
  | 6 => ("WireBenchModel", "fateCount", "[I", true)
  | 7 => ("WireBenchModel", "fate", "[I", true)
  | 8 => ("WireBenchModel", "puts", "[I", true)
  | 9 => ("WireBenchModel", "fedCount", "I", false)
  | 10 => ("WireBenchModel", "fed", "[I", true)
  | 11 => ("WireBenchModel", "count", "I", false)
  | 12 => ("WireBenchModel", "order", "[I", true)
  | 13 => ("WireBenchModel", "used", "[Z", true)
  | 14 => ("WireBenchModel", "figure", "[I", true)
  | 15 => ("WireBenchModel", "row", "[J", true)
  | 16 => ("WireBenchModel", "some", "Z", false)
  | 17 => ("WireBenchModel", "taken", "[I", true)
  | _ => ("WireBenchModel", "bytes", "[I", true)
def tyX3 : Nat → FieldType := fun k => match k with
  | 0 => .int
  | 1 => .int
  | 2 => .int
  | 3 => .array .int
  | 4 => .array .int
  | 5 => .array .boolean
  | 6 => .array .int
  | 7 => .array .int
  | 8 => .array .int
  | 9 => .int
  | 10 => .array .int
  | 11 => .int
  | 12 => .array .int
  | 13 => .array .boolean
  | 14 => .array .int
  | 15 => .array .long
  | 16 => .boolean
  | 17 => .array .int
  | _ => .array .int
theorem nmX3 : ∀ a, a < 19 → ∀ b, b < 19 → a ≠ b → (TX3 a).2.1 ≠ (TX3 b).2.1 := by decide +kernel
theorem tyX3_ok : ∀ k, k < 19 → parseFieldDescriptor (TX3 k).2.2.1 = some (tyX3 k) := by decide +kernel
def RL : String := "WireBenchLaw"
abbrev vwCl : List vw_C := [(RX0, TX0, 9), (RX1, TX1, 7), (RX2, TX2, 11), (RX3, TX3, 19)]
/-- the words of the tables that a method keeps -/
def gW : List Cond := lw_tbl.filter goodWord
theorem gW_of {w : Cond} (h1 : w ∈ lw_tbl) (h2 : goodWord w = true) : w ∈ gW := List.mem_filter.mpr ⟨h1, h2⟩
theorem gW_in {w : Cond} (h : w ∈ gW) : w ∈ lw_tbl := (List.mem_filter.mp h).1
theorem gW_good {w : Cond} (h : w ∈ gW) : (w.onTables && w.keeps) = true ∨ ∃ ty, w = .arrayClass ty := good_of_word (List.mem_filter.mp h).2
theorem gGood {big L : List Cond} (hb : ∀ w ∈ gW, w ∈ big) (h : ∀ w ∈ L, w ∈ gW) : GoodIn big L := fun w hw => ⟨hb w (h w hw), gW_good (h w hw)⟩
theorem gCons {c : Cond} : ∀ w ∈ gW, w ∈ c :: gW := fun _ h => List.mem_cons_of_mem _ h
theorem gCode {c : Cond} (h : c ∈ gW) : ∀ w ∈ c :: gW, w ∈ gW := fun w hw => (List.mem_cons.mp hw).elim (fun e => e ▸ h) (fun h => h)
theorem gV {c : Cond} {own C : String} {i : Nat} {y : MethodName} (h1 : Cond.methodLink own i y ∈ gW) (h2 : Cond.instanceMethod y ∈ gW) (h3 : Cond.selects C y y ∈ gW) (h4 : Cond.initialized C ∈ gW) (h5 : c ∈ gW) : ∀ w ∈ wsV own i C y (c :: gW), w ∈ gW := by
  intro w hw
  rcases List.mem_append.mp hw with hw | hw
  · rcases List.mem_cons.mp hw with rfl | hw
    · exact h1
    rcases List.mem_cons.mp hw with rfl | hw
    · exact h2
    rcases List.mem_cons.mp hw with rfl | hw
    · exact h3
    rcases List.mem_cons.mp hw with rfl | hw
    · exact h4
    cases hw
  · exact gCode h5 w hw
theorem gSw {c : Cond} {own : String} {i : Nat} {y : MethodName} (h1 : Cond.methodLink own i y ∈ gW) (h2 : Cond.static y ∈ gW) (h3 : Cond.initialized y.cls ∈ gW) (h5 : c ∈ gW) : ∀ w ∈ va_wsS own i y (c :: gW), w ∈ gW := by
  intro w hw
  rcases List.mem_append.mp hw with hw | hw
  · rcases List.mem_cons.mp hw with rfl | hw
    · exact h1
    rcases List.mem_cons.mp hw with rfl | hw
    · exact h2
    rcases List.mem_cons.mp hw with rfl | hw
    · exact h3
    cases hw
  · exact gCode h5 w hw
theorem gSt {c : Cond} {own : String} {i : Nat} {y : MethodName} (h1 : Cond.methodLink own i y ∈ gW) (h2 : Cond.static y ∈ gW) (h3 : Cond.initialized own ∈ gW) (h5 : c ∈ gW) : ∀ w ∈ wsS own i y (c :: gW), w ∈ gW := by
  intro w hw
  rcases List.mem_append.mp hw with hw | hw
  · rcases List.mem_cons.mp hw with rfl | hw
    · exact h1
    rcases List.mem_cons.mp hw with rfl | hw
    · exact h2
    rcases List.mem_cons.mp hw with rfl | hw
    · exact h3
    cases hw
  · exact gCode h5 w hw
abbrev cX2_init : ByteArray := prog_1_method_1_code
def yX2_init : MethodName := ⟨RX2, "<init>", "()V"⟩
abbrev kX2_init : Cond := .code yX2_init cX2_init 2 none
def wsX2_init : List Cond := kX2_init :: gW
abbrev cX0_init : ByteArray := prog_2_method_1_code
def yX0_init : MethodName := ⟨RX0, "<init>", "()V"⟩
abbrev kX0_init : Cond := .code yX0_init cX0_init 1 none
def wsX0_init : List Cond := kX0_init :: gW
abbrev cX1_init : ByteArray := prog_3_method_1_code
def yX1_init : MethodName := ⟨RX1, "<init>", "()V"⟩
abbrev kX1_init : Cond := .code yX1_init cX1_init 1 none
def wsX1_init : List Cond := kX1_init :: gW
abbrev cX2_next : ByteArray := prog_1_method_8_code
def yX2_next : MethodName := ⟨RX2, "next", "()Z"⟩
abbrev kX2_next : Cond := .code yX2_next cX2_next 3 (some .boolean)
def wsX2_next : List Cond := kX2_next :: gW
abbrev cX2_underWay : ByteArray := prog_1_method_11_code
def yX2_underWay : MethodName := ⟨RX2, "underWay", "()I"⟩
abbrev kX2_underWay : Cond := .code yX2_underWay cX2_underWay 1 (some .int)
def wsX2_underWay : List Cond := kX2_underWay :: gW
abbrev cL_net : ByteArray := method_3_code
def yL_net : MethodName := ⟨RL, "net", "(LWireBench;II[J)I"⟩
abbrev kL_net : Cond := .codeWith yL_net cL_net 5 (some .int) [(0, 10, 13, 13), (0, 10, 17, 15)]
def wsL_net : List Cond := kL_net :: gW
abbrev cX2_net : ByteArray := prog_1_method_2_code
def yX2_net : MethodName := ⟨RX2, "net", "(II)I"⟩
abbrev kX2_net : Cond := .code yX2_net cX2_net 3 (some .int)
def wsX2_net : List Cond := kX2_net :: gW
abbrev cX1_open : ByteArray := prog_3_method_2_code
def yX1_open : MethodName := ⟨RX1, "open", "(II)V"⟩
abbrev kX1_open : Cond := .code yX1_open cX1_open 3 none
def wsX1_open : List Cond := kX1_open :: gW
abbrev cL_link : ByteArray := method_4_code
def yL_link : MethodName := ⟨RL, "link", "(LWireBench;IZ[J)I"⟩
abbrev kL_link : Cond := .codeWith yL_link cL_link 5 (some .int) [(0, 10, 13, 13)]
def wsL_link : List Cond := kL_link :: gW
abbrev cX2_link : ByteArray := prog_1_method_3_code
def yX2_link : MethodName := ⟨RX2, "link", "(IZ)I"⟩
abbrev kX2_link : Cond := .code yX2_link cX2_link 3 (some .int)
def wsX2_link : List Cond := kX2_link :: gW
abbrev cX2_netNumbered : ByteArray := prog_1_method_14_code
def yX2_netNumbered : MethodName := ⟨RX2, "netNumbered", "(I)LWireBench$Net;"⟩
abbrev kX2_netNumbered : Cond := .code yX2_netNumbered cX2_netNumbered 2 (some (.object "WireBench$Net"))
def wsX2_netNumbered : List Cond := kX2_netNumbered :: gW
abbrev cX2_loseArrivalsOf : ByteArray := prog_1_method_22_code
def yX2_loseArrivalsOf : MethodName := ⟨RX2, "loseArrivalsOf", "(I)I"⟩
abbrev kX2_loseArrivalsOf : Cond := .code yX2_loseArrivalsOf cX2_loseArrivalsOf 5 (some .int)
def wsX2_loseArrivalsOf : List Cond := kX2_loseArrivalsOf :: gW
abbrev cL_fates : ByteArray := method_5_code
def yL_fates : MethodName := ⟨RL, "fates", "(LWireBench;IJI[J)I"⟩
abbrev kL_fates : Cond := .codeWith yL_fates cL_fates 7 (some .int) [(0, 13, 16, 13), (0, 13, 20, 15)]
def wsL_fates : List Cond := kL_fates :: gW
abbrev cX2_fates : ByteArray := prog_1_method_4_code
def yX2_fates : MethodName := ⟨RX2, "fates", "(IJI)I"⟩
abbrev kX2_fates : Cond := .code yX2_fates cX2_fates 7 (some .int)
def wsX2_fates : List Cond := kX2_fates :: gW
abbrev cX1_addFate : ByteArray := prog_3_method_4_code
def yX1_addFate : MethodName := ⟨RX1, "addFate", "(I)V"⟩
abbrev kX1_addFate : Cond := .code yX1_addFate cX1_addFate 2 none
def wsX1_addFate : List Cond := kX1_addFate :: gW
abbrev cL_feed : ByteArray := method_6_code
def yL_feed : MethodName := ⟨RL, "feed", "(LWireBench;JI[J)I"⟩
abbrev kL_feed : Cond := .codeWith yL_feed cL_feed 6 (some .int) [(0, 11, 14, 13), (0, 11, 18, 15)]
def wsL_feed : List Cond := kL_feed :: gW
abbrev cX2_feed : ByteArray := prog_1_method_5_code
def yX2_feed : MethodName := ⟨RX2, "feed", "(JI)I"⟩
abbrev kX2_feed : Cond := .code yX2_feed cX2_feed 5 (some .int)
def wsX2_feed : List Cond := kX2_feed :: gW
abbrev cX2_ringPlace : ByteArray := prog_1_method_16_code
def yX2_ringPlace : MethodName := ⟨RX2, "ringPlace", "(I)I"⟩
abbrev kX2_ringPlace : Cond := .code yX2_ringPlace cX2_ringPlace 1 (some .int)
def wsX2_ringPlace : List Cond := kX2_ringPlace :: gW
abbrev cL_put : ByteArray := method_7_code
def yL_put : MethodName := ⟨RL, "put", "(LWireBench;IIII[J)I"⟩
abbrev kL_put : Cond := .codeWith yL_put cL_put 7 (some .int) [(0, 14, 17, 13)]
def wsL_put : List Cond := kL_put :: gW
abbrev cX2_put : ByteArray := prog_1_method_6_code
def yX2_put : MethodName := ⟨RX2, "put", "(IIII)I"⟩
abbrev kX2_put : Cond := .code yX2_put cX2_put 7 (some .int)
def wsX2_put : List Cond := kX2_put :: gW
abbrev cX2_isStation : ByteArray := prog_1_method_15_code
def yX2_isStation : MethodName := ⟨RX2, "isStation", "(I)Z"⟩
abbrev kX2_isStation : Cond := .code yX2_isStation cX2_isStation 1 (some .boolean)
def wsX2_isStation : List Cond := kX2_isStation :: gW
abbrev cX2_sendPayload : ByteArray := prog_1_method_17_code
def yX2_sendPayload : MethodName := ⟨RX2, "sendPayload", "(LWireBench$Net;)I"⟩
abbrev kX2_sendPayload : Cond := .code yX2_sendPayload cX2_sendPayload 7 (some .int)
def wsX2_sendPayload : List Cond := kX2_sendPayload :: gW
abbrev cX2_sendPiece : ByteArray := prog_1_method_19_code
def yX2_sendPiece : MethodName := ⟨RX2, "sendPiece", "(LWireBench$Net;II)V"⟩
abbrev kX2_sendPiece : Cond := .code yX2_sendPiece cX2_sendPiece 4 none
def wsX2_sendPiece : List Cond := kX2_sendPiece :: gW
abbrev cX1_takeFate : ByteArray := prog_3_method_5_code
def yX1_takeFate : MethodName := ⟨RX1, "takeFate", "()I"⟩
abbrev kX1_takeFate : Cond := .code yX1_takeFate cX1_takeFate 2 (some .int)
def wsX1_takeFate : List Cond := kX1_takeFate :: gW
abbrev cX2_meetFate : ByteArray := prog_1_method_20_code
def yX2_meetFate : MethodName := ⟨RX2, "meetFate", "(II)V"⟩
abbrev kX2_meetFate : Cond := .code yX2_meetFate cX2_meetFate 3 none
def wsX2_meetFate : List Cond := kX2_meetFate :: gW
abbrev cX2_arriveBehind : ByteArray := prog_1_method_21_code
def yX2_arriveBehind : MethodName := ⟨RX2, "arriveBehind", "(I)V"⟩
abbrev kX2_arriveBehind : Cond := .code yX2_arriveBehind cX2_arriveBehind 4 none
def wsX2_arriveBehind : List Cond := kX2_arriveBehind :: gW
abbrev cX0_copyFrom : ByteArray := prog_2_method_2_code
def yX0_copyFrom : MethodName := ⟨RX0, "copyFrom", "(LWireBench$Arrival;)V"⟩
abbrev kX0_copyFrom : Cond := .code yX0_copyFrom cX0_copyFrom 2 none
def wsX0_copyFrom : List Cond := kX0_copyFrom :: gW
abbrev cX1_pieceSize : ByteArray := prog_3_method_3_code
def yX1_pieceSize : MethodName := ⟨RX1, "pieceSize", "()I"⟩
abbrev kX1_pieceSize : Cond := .code yX1_pieceSize cX1_pieceSize 1 (some .int)
def wsX1_pieceSize : List Cond := kX1_pieceSize :: gW
abbrev cX2_countPieces : ByteArray := prog_1_method_18_code
def yX2_countPieces : MethodName := ⟨RX2, "countPieces", "(II)I"⟩
abbrev kX2_countPieces : Cond := .code yX2_countPieces cX2_countPieces 2 (some .int)
def wsX2_countPieces : List Cond := kX2_countPieces :: gW
abbrev cL_pass : ByteArray := method_8_code
def yL_pass : MethodName := ⟨RL, "pass", "(LWireBench;I[J)I"⟩
abbrev kL_pass : Cond := .codeWith yL_pass cL_pass 4 (some .int) [(0, 9, 12, 13), (0, 9, 15, 15)]
def wsL_pass : List Cond := kL_pass :: gW
abbrev cX2_pass : ByteArray := prog_1_method_7_code
def yX2_pass : MethodName := ⟨RX2, "pass", "(I)I"⟩
abbrev kX2_pass : Cond := .code yX2_pass cX2_pass 2 (some .int)
def wsX2_pass : List Cond := kX2_pass :: gW
abbrev cX2_countDue : ByteArray := prog_1_method_23_code
def yX2_countDue : MethodName := ⟨RX2, "countDue", "()I"⟩
abbrev kX2_countDue : Cond := .code yX2_countDue cX2_countDue 2 (some .int)
def wsX2_countDue : List Cond := kX2_countDue :: gW
abbrev cL_arrival : ByteArray := method_9_code
def yL_arrival : MethodName := ⟨RL, "arrival", "(LWireBench;I[J)I"⟩
abbrev kL_arrival : Cond := .codeWith yL_arrival cL_arrival 4 (some .int) [(0, 9, 12, 13), (0, 9, 15, 15)]
def wsL_arrival : List Cond := kL_arrival :: gW
abbrev cX2_arrival : ByteArray := prog_1_method_9_code
def yX2_arrival : MethodName := ⟨RX2, "arrival", "(I)I"⟩
abbrev kX2_arrival : Cond := .code yX2_arrival cX2_arrival 2 (some .int)
def wsX2_arrival : List Cond := kX2_arrival :: gW
abbrev cL_byteAt : ByteArray := method_10_code
def yL_byteAt : MethodName := ⟨RL, "byteAt", "(LWireBench;I[J)I"⟩
abbrev kL_byteAt : Cond := .codeWith yL_byteAt cL_byteAt 4 (some .int) [(0, 9, 12, 15), (0, 9, 15, 43)]
def wsL_byteAt : List Cond := kL_byteAt :: gW
abbrev cX2_byteAt : ByteArray := prog_1_method_10_code
def yX2_byteAt : MethodName := ⟨RX2, "byteAt", "(I)I"⟩
abbrev kX2_byteAt : Cond := .code yX2_byteAt cX2_byteAt 2 (some .int)
def wsX2_byteAt : List Cond := kX2_byteAt :: gW
abbrev cL_fated : ByteArray := method_11_code
def yL_fated : MethodName := ⟨RL, "fated", "(LWireBench;I[J)I"⟩
abbrev kL_fated : Cond := .codeWith yL_fated cL_fated 4 (some .int) [(0, 9, 12, 13)]
def wsL_fated : List Cond := kL_fated :: gW
abbrev cX2_fated : ByteArray := prog_1_method_12_code
def yX2_fated : MethodName := ⟨RX2, "fated", "(I)I"⟩
abbrev kX2_fated : Cond := .code yX2_fated cX2_fated 2 (some .int)
def wsX2_fated : List Cond := kX2_fated :: gW
abbrev cL_puts : ByteArray := method_12_code
def yL_puts : MethodName := ⟨RL, "puts", "(LWireBench;I[J)I"⟩
abbrev kL_puts : Cond := .codeWith yL_puts cL_puts 4 (some .int) [(0, 9, 12, 13)]
def wsL_puts : List Cond := kL_puts :: gW
abbrev cX2_puts : ByteArray := prog_1_method_13_code
def yX2_puts : MethodName := ⟨RX2, "puts", "(I)I"⟩
abbrev kX2_puts : Cond := .code yX2_puts cX2_puts 2 (some .int)
def wsX2_puts : List Cond := kX2_puts :: gW
abbrev cX3_init : ByteArray := prog_5_method_1_code
def yX3_init : MethodName := ⟨RX3, "<init>", "()V"⟩
abbrev kX3_init : Cond := .code yX3_init cX3_init 1 none
def wsX3_init : List Cond := kX3_init :: gW
abbrev cX3_thrown : ByteArray := prog_5_method_2_code
def yX3_thrown : MethodName := ⟨RX3, "thrown", "()I"⟩
abbrev kX3_thrown : Cond := .code yX3_thrown cX3_thrown 1 (some .int)
def wsX3_thrown : List Cond := kX3_thrown :: gW
abbrev cX3_net : ByteArray := prog_5_method_4_code
def yX3_net : MethodName := ⟨RX3, "net", "(II)I"⟩
abbrev kX3_net : Cond := .code yX3_net cX3_net 3 (some .int)
def wsX3_net : List Cond := kX3_net :: gW
abbrev cX3_link : ByteArray := prog_5_method_6_code
def yX3_link : MethodName := ⟨RX3, "link", "(IZ)I"⟩
abbrev kX3_link : Cond := .code yX3_link cX3_link 5 (some .int)
def wsX3_link : List Cond := kX3_link :: gW
abbrev cX3_isNet : ByteArray := prog_5_method_3_code
def yX3_isNet : MethodName := ⟨RX3, "isNet", "(I)Z"⟩
abbrev kX3_isNet : Cond := .code yX3_isNet cX3_isNet 2 (some .boolean)
def wsX3_isNet : List Cond := kX3_isNet :: gW
abbrev cX3_remove : ByteArray := prog_5_method_5_code
def yX3_remove : MethodName := ⟨RX3, "remove", "(I)V"⟩
abbrev kX3_remove : Cond := .code yX3_remove cX3_remove 3 none
def wsX3_remove : List Cond := kX3_remove :: gW
abbrev cX3_fates : ByteArray := prog_5_method_7_code
def yX3_fates : MethodName := ⟨RX3, "fates", "(IJI)I"⟩
abbrev kX3_fates : Cond := .code yX3_fates cX3_fates 6 (some .int)
def wsX3_fates : List Cond := kX3_fates :: gW
abbrev cX3_feed : ByteArray := prog_5_method_8_code
def yX3_feed : MethodName := ⟨RX3, "feed", "(JI)I"⟩
abbrev kX3_feed : Cond := .code yX3_feed cX3_feed 5 (some .int)
def wsX3_feed : List Cond := kX3_feed :: gW
abbrev cX3_put : ByteArray := prog_5_method_12_code
def yX3_put : MethodName := ⟨RX3, "put", "(IIII)I"⟩
abbrev kX3_put : Cond := .code yX3_put cX3_put 9 (some .int)
def wsX3_put : List Cond := kX3_put :: gW
abbrev cX3_frame : ByteArray := prog_5_method_11_code
def yX3_frame : MethodName := ⟨RX3, "frame", "(IIIIII)V"⟩
abbrev kX3_frame : Cond := .code yX3_frame cX3_frame 9 none
def wsX3_frame : List Cond := kX3_frame :: gW
abbrev cX3_nextFate : ByteArray := prog_5_method_9_code
def yX3_nextFate : MethodName := ⟨RX3, "nextFate", "(I)I"⟩
abbrev kX3_nextFate : Cond := .code yX3_nextFate cX3_nextFate 4 (some .int)
def wsX3_nextFate : List Cond := kX3_nextFate :: gW
abbrev cX3_add : ByteArray := prog_5_method_10_code
def yX3_add : MethodName := ⟨RX3, "add", "(IIIIIII)V"⟩
abbrev kX3_add : Cond := .code yX3_add cX3_add 11 none
def wsX3_add : List Cond := kX3_add :: gW
abbrev cX3_pass : ByteArray := prog_5_method_14_code
def yX3_pass : MethodName := ⟨RX3, "pass", "(I)I"⟩
abbrev kX3_pass : Cond := .code yX3_pass cX3_pass 4 (some .int)
def wsX3_pass : List Cond := kX3_pass :: gW
abbrev cX3_due : ByteArray := prog_5_method_13_code
def yX3_due : MethodName := ⟨RX3, "due", "(I)I"⟩
abbrev kX3_due : Cond := .code yX3_due cX3_due 2 (some .int)
def wsX3_due : List Cond := kX3_due :: gW
abbrev cX3_next : ByteArray := prog_5_method_15_code
def yX3_next : MethodName := ⟨RX3, "next", "()Z"⟩
abbrev kX3_next : Cond := .code yX3_next cX3_next 4 (some .boolean)
def wsX3_next : List Cond := kX3_next :: gW
abbrev cX3_arrival : ByteArray := prog_5_method_16_code
def yX3_arrival : MethodName := ⟨RX3, "arrival", "(I)I"⟩
abbrev kX3_arrival : Cond := .code yX3_arrival cX3_arrival 2 (some .int)
def wsX3_arrival : List Cond := kX3_arrival :: gW
abbrev cX3_byteAt : ByteArray := prog_5_method_17_code
def yX3_byteAt : MethodName := ⟨RX3, "byteAt", "(I)I"⟩
abbrev kX3_byteAt : Cond := .code yX3_byteAt cX3_byteAt 2 (some .int)
def wsX3_byteAt : List Cond := kX3_byteAt :: gW
abbrev cX3_underWay : ByteArray := prog_5_method_18_code
def yX3_underWay : MethodName := ⟨RX3, "underWay", "()I"⟩
abbrev kX3_underWay : Cond := .code yX3_underWay cX3_underWay 1 (some .int)
def wsX3_underWay : List Cond := kX3_underWay :: gW
abbrev cX3_fated : ByteArray := prog_5_method_19_code
def yX3_fated : MethodName := ⟨RX3, "fated", "(I)I"⟩
abbrev kX3_fated : Cond := .code yX3_fated cX3_fated 2 (some .int)
def wsX3_fated : List Cond := kX3_fated :: gW
abbrev cX3_puts : ByteArray := prog_5_method_20_code
def yX3_puts : MethodName := ⟨RX3, "puts", "(I)I"⟩
abbrev kX3_puts : Cond := .code yX3_puts cX3_puts 2 (some .int)
def wsX3_puts : List Cond := kX3_puts :: gW
abbrev cL_law : ByteArray := code
def yL_law : MethodName := ⟨RL, "law", "([I)Z"⟩
set_option maxRecDepth 20000 in
theorem hin_X0 : ∀ w ∈ u_ws RX0 TX0 9, w ∈ gW := fun w h => gW_of ((by decide +kernel : ∀ w ∈ u_ws RX0 TX0 9, w ∈ lw_tbl) w h) ((by decide +kernel : ∀ w ∈ u_ws RX0 TX0 9, goodWord w = true) w h)
set_option maxRecDepth 20000 in
theorem hin_X1 : ∀ w ∈ u_ws RX1 TX1 7, w ∈ gW := fun w h => gW_of ((by decide +kernel : ∀ w ∈ u_ws RX1 TX1 7, w ∈ lw_tbl) w h) ((by decide +kernel : ∀ w ∈ u_ws RX1 TX1 7, goodWord w = true) w h)
set_option maxRecDepth 20000 in
theorem hin_X2 : ∀ w ∈ u_ws RX2 TX2 11, w ∈ gW := fun w h => gW_of ((by decide +kernel : ∀ w ∈ u_ws RX2 TX2 11, w ∈ lw_tbl) w h) ((by decide +kernel : ∀ w ∈ u_ws RX2 TX2 11, goodWord w = true) w h)
set_option maxRecDepth 20000 in
theorem hin_X3 : ∀ w ∈ u_ws RX3 TX3 19, w ∈ gW := fun w h => gW_of ((by decide +kernel : ∀ w ∈ u_ws RX3 TX3 19, w ∈ lw_tbl) w h) ((by decide +kernel : ∀ w ∈ u_ws RX3 TX3 19, goodWord w = true) w h)
