def gw : List Cond := lw_tbl.filter goodWord
theorem gw_mem {w : Cond} (i : Nat) (h : lw_tbl[i]? = some w) (hg : goodWord w = true) : w ∈ gw := List.mem_filter.mpr ⟨List.mem_of_getElem? h, hg⟩
theorem gw_tbl {w : Cond} (h : w ∈ gw) : w ∈ lw_tbl := (List.mem_filter.mp h).1
def cn_0 : String := "SteamNations$Errands"
def ft_0 : u_T := fun k => match k with
  | 0 => ("SteamNations$Errands", "moves", "LSteamNations$Moves;", true)
  | 1 => ("SteamNations$Errands", "machine", "LSteamNations$Machine;", true)
  | 2 => ("SteamNations$Errands", "roomAhead", "LSteamNations$Room;", true)
  | 3 => ("SteamNations$Errands", "pastAhead", "LSteamNations$Past;", true)
  | 4 => ("SteamNations$Errands", "done", "I", false)
  | 5 => ("SteamNations$Errands", "latest", "I", false)
  | _ => ("SteamNations$Errands", "stoppedAt", "I", false)
def fy_0 : Nat → FieldType := fun k => match k with
  | 0 => .object "SteamNations$Moves"
  | 1 => .object "SteamNations$Machine"
  | 2 => .object "SteamNations$Room"
  | 3 => .object "SteamNations$Past"
  | 4 => .int
  | 5 => .int
  | _ => .int
theorem nm_0 : ∀ a, a < 7 → ∀ b, b < 7 → a ≠ b → (ft_0 a).2.1 ≠ (ft_0 b).2.1 := by decide +kernel
theorem fo_0 : ∀ k, k < 7 → parseFieldDescriptor (ft_0 k).2.2.1 = some (fy_0 k) := by decide +kernel
def cn_1 : String := "SteamNations$House"
def ft_1 : u_T := fun k => match k with
  | 0 => ("SteamNations$House", "room", "LSteamNations$Room;", true)
  | 1 => ("SteamNations$House", "noLaw", "LSteamNations$Text;", true)
  | 2 => ("SteamNations$House", "laws", "[LSteamNations$Text;", true)
  | 3 => ("SteamNations$House", "lawCount", "I", false)
  | 4 => ("SteamNations$House", "force", "I", false)
  | 5 => ("SteamNations$House", "sights", "[I", true)
  | _ => ("SteamNations$House", "sightCount", "I", false)
def fy_1 : Nat → FieldType := fun k => match k with
  | 0 => .object "SteamNations$Room"
  | 1 => .object "SteamNations$Text"
  | 2 => .array (.object "SteamNations$Text")
  | 3 => .int
  | 4 => .int
  | 5 => .array .int
  | _ => .int
theorem nm_1 : ∀ a, a < 7 → ∀ b, b < 7 → a ≠ b → (ft_1 a).2.1 ≠ (ft_1 b).2.1 := by decide +kernel
theorem fo_1 : ∀ k, k < 7 → parseFieldDescriptor (ft_1 k).2.2.1 = some (fy_1 k) := by decide +kernel
def cn_2 : String := "SteamNations$Machine"
def ft_2 : u_T := fun k => match k with
  | 0 => ("SteamNations$Machine", "words", "[I", true)
  | _ => ("SteamNations$Machine", "stack", "[I", true)
def fy_2 : Nat → FieldType := fun k => match k with
  | 0 => .array .int
  | _ => .array .int
theorem nm_2 : ∀ a, a < 2 → ∀ b, b < 2 → a ≠ b → (ft_2 a).2.1 ≠ (ft_2 b).2.1 := by decide +kernel
theorem fo_2 : ∀ k, k < 2 → parseFieldDescriptor (ft_2 k).2.2.1 = some (fy_2 k) := by decide +kernel
def cn_3 : String := "SteamNations$Moves"
def ft_3 : u_T := fun k => match k with
  | 0 => ("SteamNations$Moves", "house", "LSteamNations$House;", true)
  | 1 => ("SteamNations$Moves", "past", "LSteamNations$Past;", true)
  | _ => ("SteamNations$Moves", "steam", "LSteamNations$Steam;", true)
def fy_3 : Nat → FieldType := fun k => match k with
  | 0 => .object "SteamNations$House"
  | 1 => .object "SteamNations$Past"
  | _ => .object "SteamNations$Steam"
theorem nm_3 : ∀ a, a < 3 → ∀ b, b < 3 → a ≠ b → (ft_3 a).2.1 ≠ (ft_3 b).2.1 := by decide +kernel
theorem fo_3 : ∀ k, k < 3 → parseFieldDescriptor (ft_3 k).2.2.1 = some (fy_3 k) := by decide +kernel
def cn_4 : String := "SteamNations$Past"
def ft_4 : u_T := fun k => match k with
  | 0 => ("SteamNations$Past", "kept", "[I", true)
  | 1 => ("SteamNations$Past", "next", "I", false)
  | _ => ("SteamNations$Past", "size", "I", false)
def fy_4 : Nat → FieldType := fun k => match k with
  | 0 => .array .int
  | 1 => .int
  | _ => .int
theorem nm_4 : ∀ a, a < 3 → ∀ b, b < 3 → a ≠ b → (ft_4 a).2.1 ≠ (ft_4 b).2.1 := by decide +kernel
theorem fo_4 : ∀ k, k < 3 → parseFieldDescriptor (ft_4 k).2.2.1 = some (fy_4 k) := by decide +kernel
def cn_5 : String := "SteamNations$Reader"
def ft_5 : u_T := fun k => match k with
  | 0 => ("SteamNations$Reader", "kinds", "[I", true)
  | 1 => ("SteamNations$Reader", "starts", "[I", true)
  | 2 => ("SteamNations$Reader", "numbers", "[I", true)
  | 3 => ("SteamNations$Reader", "code", "[I", true)
  | 4 => ("SteamNations$Reader", "marks", "[I", true)
  | 5 => ("SteamNations$Reader", "isOrders", "Z", false)
  | 6 => ("SteamNations$Reader", "now", "I", false)
  | 7 => ("SteamNations$Reader", "kind", "I", false)
  | 8 => ("SteamNations$Reader", "steps", "I", false)
  | 9 => ("SteamNations$Reader", "parts", "I", false)
  | _ => ("SteamNations$Reader", "faultAt", "I", false)
def fy_5 : Nat → FieldType := fun k => match k with
  | 0 => .array .int
  | 1 => .array .int
  | 2 => .array .int
  | 3 => .array .int
  | 4 => .array .int
  | 5 => .boolean
  | 6 => .int
  | 7 => .int
  | 8 => .int
  | 9 => .int
  | _ => .int
theorem nm_5 : ∀ a, a < 11 → ∀ b, b < 11 → a ≠ b → (ft_5 a).2.1 ≠ (ft_5 b).2.1 := by decide +kernel
theorem fo_5 : ∀ k, k < 11 → parseFieldDescriptor (ft_5 k).2.2.1 = some (fy_5 k) := by decide +kernel
def cn_6 : String := "SteamNations$Room"
def ft_6 : u_T := fun k => match k with
  | 0 => ("SteamNations$Room", "sitters", "I", false)
  | 1 => ("SteamNations$Room", "parts", "[I", true)
  | 2 => ("SteamNations$Room", "wishes", "[I", true)
  | 3 => ("SteamNations$Room", "seats", "[I", true)
  | _ => ("SteamNations$Room", "terms", "[I", true)
def fy_6 : Nat → FieldType := fun k => match k with
  | 0 => .int
  | 1 => .array .int
  | 2 => .array .int
  | 3 => .array .int
  | _ => .array .int
theorem nm_6 : ∀ a, a < 5 → ∀ b, b < 5 → a ≠ b → (ft_6 a).2.1 ≠ (ft_6 b).2.1 := by decide +kernel
theorem fo_6 : ∀ k, k < 5 → parseFieldDescriptor (ft_6 k).2.2.1 = some (fy_6 k) := by decide +kernel
def cn_7 : String := "SteamNations$Seatings"
def ft_7 : u_T := fun k => match k with
  | 0 => ("SteamNations$Seatings", "steam", "LSteamNations$Steam;", true)
  | 1 => ("SteamNations$Seatings", "paper", "LSteamNations$Room;", true)
  | 2 => ("SteamNations$Seatings", "rows", "[I", true)
  | 3 => ("SteamNations$Seatings", "nations", "[I", true)
  | 4 => ("SteamNations$Seatings", "far", "[I", true)
  | 5 => ("SteamNations$Seatings", "queue", "[I", true)
  | 6 => ("SteamNations$Seatings", "insiders", "[I", true)
  | 7 => ("SteamNations$Seatings", "places", "[I", true)
  | 8 => ("SteamNations$Seatings", "alike", "[I", true)
  | 9 => ("SteamNations$Seatings", "inside", "I", false)
  | 10 => ("SteamNations$Seatings", "many", "I", false)
  | _ => ("SteamNations$Seatings", "known", "I", false)
def fy_7 : Nat → FieldType := fun k => match k with
  | 0 => .object "SteamNations$Steam"
  | 1 => .object "SteamNations$Room"
  | 2 => .array .int
  | 3 => .array .int
  | 4 => .array .int
  | 5 => .array .int
  | 6 => .array .int
  | 7 => .array .int
  | 8 => .array .int
  | 9 => .int
  | 10 => .int
  | _ => .int
theorem nm_7 : ∀ a, a < 12 → ∀ b, b < 12 → a ≠ b → (ft_7 a).2.1 ≠ (ft_7 b).2.1 := by decide +kernel
theorem fo_7 : ∀ k, k < 12 → parseFieldDescriptor (ft_7 k).2.2.1 = some (fy_7 k) := by decide +kernel
def cn_8 : String := "SteamNations$Steam"
def ft_8 : u_T := fun k => match k with
  | 0 => ("SteamNations$Steam", "machine", "LSteamNations$Machine;", true)
  | 1 => ("SteamNations$Steam", "changes", "[I", true)
  | _ => ("SteamNations$Steam", "whoIs", "[I", true)
def fy_8 : Nat → FieldType := fun k => match k with
  | 0 => .object "SteamNations$Machine"
  | 1 => .array .int
  | _ => .array .int
theorem nm_8 : ∀ a, a < 3 → ∀ b, b < 3 → a ≠ b → (ft_8 a).2.1 ≠ (ft_8 b).2.1 := by decide +kernel
theorem fo_8 : ∀ k, k < 3 → parseFieldDescriptor (ft_8 k).2.2.1 = some (fy_8 k) := by decide +kernel
def cn_9 : String := "SteamNations$Text"
def ft_9 : u_T := fun k => match k with
  | 0 => ("SteamNations$Text", "code", "[I", true)
  | 1 => ("SteamNations$Text", "marks", "[I", true)
  | 2 => ("SteamNations$Text", "clauses", "I", true)
  | _ => ("SteamNations$Text", "kindBits", "I", true)
def fy_9 : Nat → FieldType := fun k => match k with
  | 0 => .array .int
  | 1 => .array .int
  | 2 => .int
  | _ => .int
theorem nm_9 : ∀ a, a < 4 → ∀ b, b < 4 → a ≠ b → (ft_9 a).2.1 ≠ (ft_9 b).2.1 := by decide +kernel
theorem fo_9 : ∀ k, k < 4 → parseFieldDescriptor (ft_9 k).2.2.1 = some (fy_9 k) := by decide +kernel
def cn_10 : String := "SteamNations"
def ft_10 : u_T := fun k => match k with
  | 0 => ("SteamNations", "house", "LSteamNations$House;", true)
  | 1 => ("SteamNations", "images", "[LSteamNations$House;", true)
  | 2 => ("SteamNations", "imageKept", "[Z", true)
  | 3 => ("SteamNations", "tape", "[I", true)
  | 4 => ("SteamNations", "reader", "LSteamNations$Reader;", true)
  | 5 => ("SteamNations", "steam", "LSteamNations$Steam;", true)
  | 6 => ("SteamNations", "past", "LSteamNations$Past;", true)
  | 7 => ("SteamNations", "moves", "LSteamNations$Moves;", true)
  | 8 => ("SteamNations", "errands", "LSteamNations$Errands;", true)
  | 9 => ("SteamNations", "seatings", "LSteamNations$Seatings;", true)
  | 10 => ("SteamNations", "paper", "LSteamNations$Room;", true)
  | 11 => ("SteamNations", "latestMornings", "LSteamNations$Room;", true)
  | 12 => ("SteamNations", "drops", "[I", true)
  | 13 => ("SteamNations", "dropsAhead", "[I", true)
  | 14 => ("SteamNations", "chances", "[J", true)
  | 15 => ("SteamNations", "refusals", "[I", true)
  | 16 => ("SteamNations", "tapeLength", "I", false)
  | 17 => ("SteamNations", "faultPlace", "I", false)
  | 18 => ("SteamNations", "puffCount", "I", false)
  | _ => ("SteamNations", "latestRefusal", "I", false)
def fy_10 : Nat → FieldType := fun k => match k with
  | 0 => .object "SteamNations$House"
  | 1 => .array (.object "SteamNations$House")
  | 2 => .array .boolean
  | 3 => .array .int
  | 4 => .object "SteamNations$Reader"
  | 5 => .object "SteamNations$Steam"
  | 6 => .object "SteamNations$Past"
  | 7 => .object "SteamNations$Moves"
  | 8 => .object "SteamNations$Errands"
  | 9 => .object "SteamNations$Seatings"
  | 10 => .object "SteamNations$Room"
  | 11 => .object "SteamNations$Room"
  | 12 => .array .int
  | 13 => .array .int
  | 14 => .array .long
  | 15 => .array .int
  | 16 => .int
  | 17 => .int
  | 18 => .int
  | _ => .int
theorem nm_10 : ∀ a, a < 20 → ∀ b, b < 20 → a ≠ b → (ft_10 a).2.1 ≠ (ft_10 b).2.1 := by decide +kernel
theorem fo_10 : ∀ k, k < 20 → parseFieldDescriptor (ft_10 k).2.2.1 = some (fy_10 k) := by decide +kernel
def cn_11 : String := "SteamNationsModel"
def ft_11 : u_T := fun k => match k with
  | 0 => ("SteamNationsModel", "status", "I", false)
  | 1 => ("SteamNationsModel", "refused", "[I", true)
  | 2 => ("SteamNationsModel", "kept", "[I", true)
  | 3 => ("SteamNationsModel", "images", "[I", true)
  | 4 => ("SteamNationsModel", "hasImage", "[Z", true)
  | 5 => ("SteamNationsModel", "aside", "[I", true)
  | 6 => ("SteamNationsModel", "puffs0", "I", false)
  | 7 => ("SteamNationsModel", "words", "[B", true)
  | 8 => ("SteamNationsModel", "firstWord", "I", false)
  | 9 => ("SteamNationsModel", "lastWord", "I", false)
  | 10 => ("SteamNationsModel", "isOrders", "Z", false)
  | 11 => ("SteamNationsModel", "tape", "[B", true)
  | 12 => ("SteamNationsModel", "five", "[I", true)
  | 13 => ("SteamNationsModel", "taped", "I", false)
  | 14 => ("SteamNationsModel", "fault", "I", false)
  | 15 => ("SteamNationsModel", "code", "[I", true)
  | 16 => ("SteamNationsModel", "value", "[I", true)
  | 17 => ("SteamNationsModel", "placed", "[I", true)
  | 18 => ("SteamNationsModel", "tokens", "I", false)
  | 19 => ("SteamNationsModel", "token", "I", false)
  | 20 => ("SteamNationsModel", "leaves", "I", false)
  | 21 => ("SteamNationsModel", "bad", "I", false)
  | 22 => ("SteamNationsModel", "go", "I", false)
  | 23 => ("SteamNationsModel", "goEnd", "I", false)
  | 24 => ("SteamNationsModel", "broken", "Z", false)
  | 25 => ("SteamNationsModel", "inOrders", "Z", false)
  | 26 => ("SteamNationsModel", "asked", "[I", true)
  | 27 => ("SteamNationsModel", "orderDone", "I", false)
  | 28 => ("SteamNationsModel", "orderLatest", "I", false)
  | 29 => ("SteamNationsModel", "more", "[I", true)
  | 30 => ("SteamNationsModel", "left0", "[I", true)
  | 31 => ("SteamNationsModel", "leftAhead", "[I", true)
  | 32 => ("SteamNationsModel", "undoMany", "I", false)
  | 33 => ("SteamNationsModel", "holders", "[I", true)
  | 34 => ("SteamNationsModel", "taken", "[I", true)
  | 35 => ("SteamNationsModel", "holderMany", "I", false)
  | 36 => ("SteamNationsModel", "seatingMany", "I", false)
  | 37 => ("SteamNationsModel", "pleased0", "[I", true)
  | 38 => ("SteamNationsModel", "swaps0", "[I", true)
  | 39 => ("SteamNationsModel", "queue", "[I", true)
  | 40 => ("SteamNationsModel", "mayHave", "[Z", true)
  | 41 => ("SteamNationsModel", "wouldBe", "[I", true)
  | 42 => ("SteamNationsModel", "alike", "[I", true)
  | 43 => ("SteamNationsModel", "wet", "[I", true)
  | 44 => ("SteamNationsModel", "given", "[I", true)
  | 45 => ("SteamNationsModel", "parts0", "[J", true)
  | 46 => ("SteamNationsModel", "stopped0", "I", false)
  | 47 => ("SteamNationsModel", "orderAt", "I", false)
  | 48 => ("SteamNationsModel", "timesOf", "I", false)
  | 49 => ("SteamNationsModel", "head", "I", false)
  | 50 => ("SteamNationsModel", "sumsAre", "Z", false)
  | 51 => ("SteamNationsModel", "testIs", "Z", false)
  | 52 => ("SteamNationsModel", "sums", "[J", true)
  | 53 => ("SteamNationsModel", "drawnMoved", "[I", true)
  | 54 => ("SteamNationsModel", "drawnMany", "I", false)
  | _ => ("SteamNationsModel", "latest", "I", false)
def fy_11 : Nat → FieldType := fun k => match k with
  | 0 => .int
  | 1 => .array .int
  | 2 => .array .int
  | 3 => .array .int
  | 4 => .array .boolean
  | 5 => .array .int
  | 6 => .int
  | 7 => .array .byte
  | 8 => .int
  | 9 => .int
  | 10 => .boolean
  | 11 => .array .byte
  | 12 => .array .int
  | 13 => .int
  | 14 => .int
  | 15 => .array .int
  | 16 => .array .int
  | 17 => .array .int
  | 18 => .int
  | 19 => .int
  | 20 => .int
  | 21 => .int
  | 22 => .int
  | 23 => .int
  | 24 => .boolean
  | 25 => .boolean
  | 26 => .array .int
  | 27 => .int
  | 28 => .int
  | 29 => .array .int
  | 30 => .array .int
  | 31 => .array .int
  | 32 => .int
  | 33 => .array .int
  | 34 => .array .int
  | 35 => .int
  | 36 => .int
  | 37 => .array .int
  | 38 => .array .int
  | 39 => .array .int
  | 40 => .array .boolean
  | 41 => .array .int
  | 42 => .array .int
  | 43 => .array .int
  | 44 => .array .int
  | 45 => .array .long
  | 46 => .int
  | 47 => .int
  | 48 => .int
  | 49 => .int
  | 50 => .boolean
  | 51 => .boolean
  | 52 => .array .long
  | 53 => .array .int
  | 54 => .int
  | _ => .int
theorem nm_11 : ∀ a, a < 56 → ∀ b, b < 56 → a ≠ b → (ft_11 a).2.1 ≠ (ft_11 b).2.1 := by decide +kernel
theorem fo_11 : ∀ k, k < 56 → parseFieldDescriptor (ft_11 k).2.2.1 = some (fy_11 k) := by decide +kernel
abbrev cls : List vw_C := [(cn_0, ft_0, 7), (cn_1, ft_1, 7), (cn_2, ft_2, 2), (cn_3, ft_3, 3), (cn_4, ft_4, 3), (cn_5, ft_5, 11), (cn_6, ft_6, 5), (cn_7, ft_7, 12), (cn_8, ft_8, 3), (cn_9, ft_9, 4), (cn_10, ft_10, 20), (cn_11, ft_11, 56)]
theorem in_0 : ∀ w ∈ u_ws cn_0 ft_0 7, w ∈ gw := by decide +kernel
theorem in_1 : ∀ w ∈ u_ws cn_1 ft_1 7, w ∈ gw := by decide +kernel
theorem in_2 : ∀ w ∈ u_ws cn_2 ft_2 2, w ∈ gw := by decide +kernel
theorem in_3 : ∀ w ∈ u_ws cn_3 ft_3 3, w ∈ gw := by decide +kernel
theorem in_4 : ∀ w ∈ u_ws cn_4 ft_4 3, w ∈ gw := by decide +kernel
theorem in_5 : ∀ w ∈ u_ws cn_5 ft_5 11, w ∈ gw := by decide +kernel
theorem in_6 : ∀ w ∈ u_ws cn_6 ft_6 5, w ∈ gw := by decide +kernel
theorem in_7 : ∀ w ∈ u_ws cn_7 ft_7 12, w ∈ gw := by decide +kernel
theorem in_8 : ∀ w ∈ u_ws cn_8 ft_8 3, w ∈ gw := by decide +kernel
theorem in_9 : ∀ w ∈ u_ws cn_9 ft_9 4, w ∈ gw := by decide +kernel
theorem in_10 : ∀ w ∈ u_ws cn_10 ft_10 20, w ∈ gw := by decide +kernel
theorem in_11 : ∀ w ∈ u_ws cn_11 ft_11 56, w ∈ gw := by decide +kernel
def bw : List Cond := lw_tbl.filter (fun w => !goodWord w)
