def lg_tbl : List Cond := lw_tbl.filter goodWord
theorem fT : ip_okT lg_tbl := fun w hw => good_of_word (List.mem_filter.mp hw).2
theorem tt_1 : ∀ w ∈ tables_1_1, goodWord w = true → w ∈ lg_tbl := fun _ h g => List.mem_filter.mpr ⟨List.mem_append_right _ (List.mem_append_left _ h), g⟩
theorem tt_2 : ∀ w ∈ tables_1_2, goodWord w = true → w ∈ lg_tbl := fun _ h g => List.mem_filter.mpr ⟨List.mem_append_right _ (List.mem_append_right _ (List.mem_append_left _ h)), g⟩
theorem tt_3 : ∀ w ∈ tables_1_3, goodWord w = true → w ∈ lg_tbl := fun _ h g => List.mem_filter.mpr ⟨List.mem_append_right _ (List.mem_append_right _ (List.mem_append_right _ (List.mem_append_left _ h))), g⟩
theorem tt_4 : ∀ w ∈ tables_1_4, goodWord w = true → w ∈ lg_tbl := fun _ h g => List.mem_filter.mpr ⟨List.mem_append_right _ (List.mem_append_right _ (List.mem_append_right _ (List.mem_append_right _ (List.mem_append_left _ h)))), g⟩
theorem tt_5 : ∀ w ∈ tables_1_5, goodWord w = true → w ∈ lg_tbl := fun _ h g => List.mem_filter.mpr ⟨List.mem_append_right _ (List.mem_append_right _ (List.mem_append_right _ (List.mem_append_right _ (List.mem_append_right _ (List.mem_append_left _ h))))), g⟩
theorem tt_6 : ∀ w ∈ tables_1_6, goodWord w = true → w ∈ lg_tbl := fun _ h g => List.mem_filter.mpr ⟨List.mem_append_right _ (List.mem_append_right _ (List.mem_append_right _ (List.mem_append_right _ (List.mem_append_right _ (List.mem_append_right _ (List.mem_append_left _ h)))))), g⟩
theorem tt_7 : ∀ w ∈ tables_1_7, goodWord w = true → w ∈ lg_tbl := fun _ h g => List.mem_filter.mpr ⟨List.mem_append_right _ (List.mem_append_right _ (List.mem_append_right _ (List.mem_append_right _ (List.mem_append_right _ (List.mem_append_right _ (List.mem_append_right _ (List.mem_append_left _ h))))))), g⟩
theorem tt_8 : ∀ w ∈ tables_1_8, goodWord w = true → w ∈ lg_tbl := fun _ h g => List.mem_filter.mpr ⟨List.mem_append_right _ (List.mem_append_right _ (List.mem_append_right _ (List.mem_append_right _ (List.mem_append_right _ (List.mem_append_right _ (List.mem_append_right _ (List.mem_append_right _ (List.mem_append_left _ h)))))))), g⟩
theorem tt_9 : ∀ w ∈ tables_1_9, goodWord w = true → w ∈ lg_tbl := fun _ h g => List.mem_filter.mpr ⟨List.mem_append_right _ (List.mem_append_right _ (List.mem_append_right _ (List.mem_append_right _ (List.mem_append_right _ (List.mem_append_right _ (List.mem_append_right _ (List.mem_append_right _ (List.mem_append_right _ (List.mem_append_left _ h))))))))), g⟩
theorem tt_10 : ∀ w ∈ tables_1_10, goodWord w = true → w ∈ lg_tbl := fun _ h g => List.mem_filter.mpr ⟨List.mem_append_right _ (List.mem_append_right _ (List.mem_append_right _ (List.mem_append_right _ (List.mem_append_right _ (List.mem_append_right _ (List.mem_append_right _ (List.mem_append_right _ (List.mem_append_right _ (List.mem_append_right _ (List.mem_append_left _ h)))))))))), g⟩
theorem tt_11 : ∀ w ∈ tables_1_11, goodWord w = true → w ∈ lg_tbl := fun _ h g => List.mem_filter.mpr ⟨List.mem_append_right _ (List.mem_append_right _ (List.mem_append_right _ (List.mem_append_right _ (List.mem_append_right _ (List.mem_append_right _ (List.mem_append_right _ (List.mem_append_right _ (List.mem_append_right _ (List.mem_append_right _ (List.mem_append_right _ (h))))))))))), g⟩
def RX0 : String := "ShareHouse$Builder"
def TX0 : u_T := fun k => match k with
  | 0 => ("ShareHouse$Builder", "code", "LShareHouse$Code;", true)
  | 1 => ("ShareHouse$Builder", "names", "LShareHouse$Names;", true)
  | 2 => ("ShareHouse$Builder", "inputs", "LShareHouse$Inputs;", true)
  | 3 => ("ShareHouse$Builder", "circuit", "LShareHouse$Circuit;", true)
  | 4 => ("ShareHouse$Builder", "logic", "LShareHouse$Logic;", true)
  | 5 => ("ShareHouse$Builder", "width", "I", true)
  | 6 => ("ShareHouse$Builder", "sum", "[I", true)
  | 7 => ("ShareHouse$Builder", "stack", "[I", true)
  | 8 => ("ShareHouse$Builder", "top", "I", false)
  | 9 => ("ShareHouse$Builder", "vars", "[I", true)
  | 10 => ("ShareHouse$Builder", "returns", "[I", true)
  | 11 => ("ShareHouse$Builder", "frames", "[I", true)
  | 12 => ("ShareHouse$Builder", "calls", "I", false)
  | 13 => ("ShareHouse$Builder", "frame", "I", false)
  | 14 => ("ShareHouse$Builder", "now", "[J", true)
  | 15 => ("ShareHouse$Builder", "last", "[J", true)
  | 16 => ("ShareHouse$Builder", "next", "I", false)
  | 17 => ("ShareHouse$Builder", "here", "I", false)
  | _ => ("ShareHouse$Builder", "steps", "I", false)
def tyX0 : Nat → FieldType := fun k => match k with
  | 0 => .object "ShareHouse$Code"
  | 1 => .object "ShareHouse$Names"
  | 2 => .object "ShareHouse$Inputs"
  | 3 => .object "ShareHouse$Circuit"
  | 4 => .object "ShareHouse$Logic"
  | 5 => .int
  | 6 => .array .int
  | 7 => .array .int
  | 8 => .int
  | 9 => .array .int
  | 10 => .array .int
  | 11 => .array .int
  | 12 => .int
  | 13 => .int
  | 14 => .array .long
  | 15 => .array .long
  | 16 => .int
  | 17 => .int
  | _ => .int
theorem nmX0 : ∀ a, a < 19 → ∀ b, b < 19 → a ≠ b → (TX0 a).2.1 ≠ (TX0 b).2.1 := by decide +kernel
theorem tyX0_ok : ∀ k, k < 19 → parseFieldDescriptor (TX0 k).2.2.1 = some (tyX0 k) := by decide +kernel
theorem wfX0 : ∀ k, k < 19 → u_lay RX0 TX0 k ∈ lg_tbl
  | 0, _ => tt_2 _ (List.mem_of_getElem? (i := 182) rfl) rfl
  | 1, _ => tt_2 _ (List.mem_of_getElem? (i := 184) rfl) rfl
  | 2, _ => tt_2 _ (List.mem_of_getElem? (i := 186) rfl) rfl
  | 3, _ => tt_2 _ (List.mem_of_getElem? (i := 188) rfl) rfl
  | 4, _ => tt_2 _ (List.mem_of_getElem? (i := 190) rfl) rfl
  | 5, _ => tt_2 _ (List.mem_of_getElem? (i := 192) rfl) rfl
  | 6, _ => tt_2 _ (List.mem_of_getElem? (i := 194) rfl) rfl
  | 7, _ => tt_2 _ (List.mem_of_getElem? (i := 196) rfl) rfl
  | 8, _ => tt_2 _ (List.mem_of_getElem? (i := 198) rfl) rfl
  | 9, _ => tt_2 _ (List.mem_of_getElem? (i := 200) rfl) rfl
  | 10, _ => tt_2 _ (List.mem_of_getElem? (i := 202) rfl) rfl
  | 11, _ => tt_2 _ (List.mem_of_getElem? (i := 204) rfl) rfl
  | 12, _ => tt_2 _ (List.mem_of_getElem? (i := 206) rfl) rfl
  | 13, _ => tt_2 _ (List.mem_of_getElem? (i := 208) rfl) rfl
  | 14, _ => tt_2 _ (List.mem_of_getElem? (i := 210) rfl) rfl
  | 15, _ => tt_2 _ (List.mem_of_getElem? (i := 212) rfl) rfl
  | 16, _ => tt_2 _ (List.mem_of_getElem? (i := 214) rfl) rfl
  | 17, _ => tt_2 _ (List.mem_of_getElem? (i := 216) rfl) rfl
  | 18, _ => tt_2 _ (List.mem_of_getElem? (i := 218) rfl) rfl
  | n + 19, h => absurd h (by omega)
theorem wsX0_in : ∀ w ∈ u_ws RX0 TX0 19, w ∈ lg_tbl := fun w hw => by
  obtain ⟨k, hk, rfl⟩ := List.mem_map.mp hw
  exact wfX0 k (List.mem_range.mp hk)
def RX1 : String := "ShareHouse$Circuit"
def TX1 : u_T := fun k => match k with
  | 0 => ("ShareHouse$Circuit", "first", "[I", true)
  | 1 => ("ShareHouse$Circuit", "second", "[I", true)
  | 2 => ("ShareHouse$Circuit", "level", "[I", true)
  | 3 => ("ShareHouse$Circuit", "number", "[I", true)
  | 4 => ("ShareHouse$Circuit", "gates", "I", false)
  | 5 => ("ShareHouse$Circuit", "ands", "I", false)
  | 6 => ("ShareHouse$Circuit", "depth", "I", false)
  | 7 => ("ShareHouse$Circuit", "full", "Z", false)
  | 8 => ("ShareHouse$Circuit", "inputWires", "I", false)
  | 9 => ("ShareHouse$Circuit", "byLevel", "[I", true)
  | 10 => ("ShareHouse$Circuit", "levelFrom", "[I", true)
  | 11 => ("ShareHouse$Circuit", "outputs", "I", false)
  | 12 => ("ShareHouse$Circuit", "outputFrom", "[I", true)
  | 13 => ("ShareHouse$Circuit", "outputLiterals", "[I", true)
  | _ => ("ShareHouse$Circuit", "values", "[I", true)
def tyX1 : Nat → FieldType := fun k => match k with
  | 0 => .array .int
  | 1 => .array .int
  | 2 => .array .int
  | 3 => .array .int
  | 4 => .int
  | 5 => .int
  | 6 => .int
  | 7 => .boolean
  | 8 => .int
  | 9 => .array .int
  | 10 => .array .int
  | 11 => .int
  | 12 => .array .int
  | 13 => .array .int
  | _ => .array .int
theorem nmX1 : ∀ a, a < 15 → ∀ b, b < 15 → a ≠ b → (TX1 a).2.1 ≠ (TX1 b).2.1 := by decide +kernel
theorem tyX1_ok : ∀ k, k < 15 → parseFieldDescriptor (TX1 k).2.2.1 = some (tyX1 k) := by decide +kernel
theorem wfX1 : ∀ k, k < 15 → u_lay RX1 TX1 k ∈ lg_tbl
  | 0, _ => tt_1 _ (List.mem_of_getElem? (i := 231) rfl) rfl
  | 1, _ => tt_1 _ (List.mem_of_getElem? (i := 233) rfl) rfl
  | 2, _ => tt_1 _ (List.mem_of_getElem? (i := 235) rfl) rfl
  | 3, _ => tt_1 _ (List.mem_of_getElem? (i := 237) rfl) rfl
  | 4, _ => tt_1 _ (List.mem_of_getElem? (i := 239) rfl) rfl
  | 5, _ => tt_2 _ (List.mem_of_getElem? (i := 1) rfl) rfl
  | 6, _ => tt_2 _ (List.mem_of_getElem? (i := 3) rfl) rfl
  | 7, _ => tt_2 _ (List.mem_of_getElem? (i := 5) rfl) rfl
  | 8, _ => tt_2 _ (List.mem_of_getElem? (i := 7) rfl) rfl
  | 9, _ => tt_2 _ (List.mem_of_getElem? (i := 9) rfl) rfl
  | 10, _ => tt_2 _ (List.mem_of_getElem? (i := 11) rfl) rfl
  | 11, _ => tt_2 _ (List.mem_of_getElem? (i := 13) rfl) rfl
  | 12, _ => tt_2 _ (List.mem_of_getElem? (i := 15) rfl) rfl
  | 13, _ => tt_2 _ (List.mem_of_getElem? (i := 17) rfl) rfl
  | 14, _ => tt_2 _ (List.mem_of_getElem? (i := 19) rfl) rfl
  | n + 15, h => absurd h (by omega)
theorem wsX1_in : ∀ w ∈ u_ws RX1 TX1 15, w ∈ lg_tbl := fun w hw => by
  obtain ⟨k, hk, rfl⟩ := List.mem_map.mp hw
  exact wfX1 k (List.mem_range.mp hk)
def RX2 : String := "ShareHouse$Code"
def TX2 : u_T := fun k => match k with
  | 0 => ("ShareHouse$Code", "op", "[I", true)
  | 1 => ("ShareHouse$Code", "arg", "[I", true)
  | 2 => ("ShareHouse$Code", "at", "[I", true)
  | 3 => ("ShareHouse$Code", "more", "[I", true)
  | 4 => ("ShareHouse$Code", "size", "I", false)
  | 5 => ("ShareHouse$Code", "fault", "I", false)
  | _ => ("ShareHouse$Code", "place", "I", false)
def tyX2 : Nat → FieldType := fun k => match k with
  | 0 => .array .int
  | 1 => .array .int
  | 2 => .array .int
  | 3 => .array .int
  | 4 => .int
  | 5 => .int
  | _ => .int
theorem nmX2 : ∀ a, a < 7 → ∀ b, b < 7 → a ≠ b → (TX2 a).2.1 ≠ (TX2 b).2.1 := by decide +kernel
theorem tyX2_ok : ∀ k, k < 7 → parseFieldDescriptor (TX2 k).2.2.1 = some (tyX2 k) := by decide +kernel
theorem wfX2 : ∀ k, k < 7 → u_lay RX2 TX2 k ∈ lg_tbl
  | 0, _ => tt_1 _ (List.mem_of_getElem? (i := 66) rfl) rfl
  | 1, _ => tt_1 _ (List.mem_of_getElem? (i := 68) rfl) rfl
  | 2, _ => tt_1 _ (List.mem_of_getElem? (i := 70) rfl) rfl
  | 3, _ => tt_1 _ (List.mem_of_getElem? (i := 72) rfl) rfl
  | 4, _ => tt_1 _ (List.mem_of_getElem? (i := 74) rfl) rfl
  | 5, _ => tt_1 _ (List.mem_of_getElem? (i := 76) rfl) rfl
  | 6, _ => tt_1 _ (List.mem_of_getElem? (i := 78) rfl) rfl
  | n + 7, h => absurd h (by omega)
theorem wsX2_in : ∀ w ∈ u_ws RX2 TX2 7, w ∈ lg_tbl := fun w hw => by
  obtain ⟨k, hk, rfl⟩ := List.mem_map.mp hw
  exact wfX2 k (List.mem_range.mp hk)
def RX3 : String := "ShareHouse$Dealer"
def TX3 : u_T := fun k => match k with
  | 0 => ("ShareHouse$Dealer", "parties", "I", true)
  | 1 => ("ShareHouse$Dealer", "queue", "[B", true)
  | 2 => ("ShareHouse$Dealer", "waiting", "I", false)
  | 3 => ("ShareHouse$Dealer", "used", "I", false)
  | 4 => ("ShareHouse$Dealer", "seed", "I", false)
  | 5 => ("ShareHouse$Dealer", "shares", "[I", true)
  | 6 => ("ShareHouse$Dealer", "a", "[I", true)
  | 7 => ("ShareHouse$Dealer", "b", "[I", true)
  | _ => ("ShareHouse$Dealer", "c", "[I", true)
def tyX3 : Nat → FieldType := fun k => match k with
  | 0 => .int
  | 1 => .array .byte
  | 2 => .int
  | 3 => .int
  | 4 => .int
  | 5 => .array .int
  | 6 => .array .int
  | 7 => .array .int
  | _ => .array .int
theorem nmX3 : ∀ a, a < 9 → ∀ b, b < 9 → a ≠ b → (TX3 a).2.1 ≠ (TX3 b).2.1 := by decide +kernel
theorem tyX3_ok : ∀ k, k < 9 → parseFieldDescriptor (TX3 k).2.2.1 = some (tyX3 k) := by decide +kernel
theorem wfX3 : ∀ k, k < 9 → u_lay RX3 TX3 k ∈ lg_tbl
  | 0, _ => tt_2 _ (List.mem_of_getElem? (i := 239) rfl) rfl
  | 1, _ => tt_3 _ (List.mem_of_getElem? (i := 1) rfl) rfl
  | 2, _ => tt_3 _ (List.mem_of_getElem? (i := 3) rfl) rfl
  | 3, _ => tt_3 _ (List.mem_of_getElem? (i := 5) rfl) rfl
  | 4, _ => tt_3 _ (List.mem_of_getElem? (i := 7) rfl) rfl
  | 5, _ => tt_3 _ (List.mem_of_getElem? (i := 9) rfl) rfl
  | 6, _ => tt_3 _ (List.mem_of_getElem? (i := 11) rfl) rfl
  | 7, _ => tt_3 _ (List.mem_of_getElem? (i := 13) rfl) rfl
  | 8, _ => tt_3 _ (List.mem_of_getElem? (i := 15) rfl) rfl
  | n + 9, h => absurd h (by omega)
theorem wsX3_in : ∀ w ∈ u_ws RX3 TX3 9, w ∈ lg_tbl := fun w hw => by
  obtain ⟨k, hk, rfl⟩ := List.mem_map.mp hw
  exact wfX3 k (List.mem_range.mp hk)
def RX4 : String := "ShareHouse$Inputs"
def TX4 : u_T := fun k => match k with
  | 0 => ("ShareHouse$Inputs", "owner", "[I", true)
  | 1 => ("ShareHouse$Inputs", "bits", "[I", true)
  | 2 => ("ShareHouse$Inputs", "wire", "[I", true)
  | 3 => ("ShareHouse$Inputs", "value", "[I", true)
  | 4 => ("ShareHouse$Inputs", "fixed", "[I", true)
  | 5 => ("ShareHouse$Inputs", "own", "[I", true)
  | 6 => ("ShareHouse$Inputs", "words", "I", false)
  | _ => ("ShareHouse$Inputs", "wires", "I", false)
def tyX4 : Nat → FieldType := fun k => match k with
  | 0 => .array .int
  | 1 => .array .int
  | 2 => .array .int
  | 3 => .array .int
  | 4 => .array .int
  | 5 => .array .int
  | 6 => .int
  | _ => .int
theorem nmX4 : ∀ a, a < 8 → ∀ b, b < 8 → a ≠ b → (TX4 a).2.1 ≠ (TX4 b).2.1 := by decide +kernel
theorem tyX4_ok : ∀ k, k < 8 → parseFieldDescriptor (TX4 k).2.2.1 = some (tyX4 k) := by decide +kernel
theorem wfX4 : ∀ k, k < 8 → u_lay RX4 TX4 k ∈ lg_tbl
  | 0, _ => tt_1 _ (List.mem_of_getElem? (i := 174) rfl) rfl
  | 1, _ => tt_1 _ (List.mem_of_getElem? (i := 176) rfl) rfl
  | 2, _ => tt_1 _ (List.mem_of_getElem? (i := 178) rfl) rfl
  | 3, _ => tt_1 _ (List.mem_of_getElem? (i := 180) rfl) rfl
  | 4, _ => tt_1 _ (List.mem_of_getElem? (i := 182) rfl) rfl
  | 5, _ => tt_1 _ (List.mem_of_getElem? (i := 184) rfl) rfl
  | 6, _ => tt_1 _ (List.mem_of_getElem? (i := 186) rfl) rfl
  | 7, _ => tt_1 _ (List.mem_of_getElem? (i := 188) rfl) rfl
  | n + 8, h => absurd h (by omega)
theorem wsX4_in : ∀ w ∈ u_ws RX4 TX4 8, w ∈ lg_tbl := fun w hw => by
  obtain ⟨k, hk, rfl⟩ := List.mem_map.mp hw
  exact wfX4 k (List.mem_range.mp hk)
def RX5 : String := "ShareHouse$Logic"
def TX5 : u_T := fun k => match k with
  | 0 => ("ShareHouse$Logic", "circuit", "LShareHouse$Circuit;", true)
  | 1 => ("ShareHouse$Logic", "width", "I", true)
  | 2 => ("ShareHouse$Logic", "result", "[I", true)
  | 3 => ("ShareHouse$Logic", "rest", "[I", true)
  | 4 => ("ShareHouse$Logic", "taken", "[I", true)
  | 5 => ("ShareHouse$Logic", "shifted", "[I", true)
  | _ => ("ShareHouse$Logic", "pairs", "[I", true)
def tyX5 : Nat → FieldType := fun k => match k with
  | 0 => .object "ShareHouse$Circuit"
  | 1 => .int
  | 2 => .array .int
  | 3 => .array .int
  | 4 => .array .int
  | 5 => .array .int
  | _ => .array .int
theorem nmX5 : ∀ a, a < 7 → ∀ b, b < 7 → a ≠ b → (TX5 a).2.1 ≠ (TX5 b).2.1 := by decide +kernel
theorem tyX5_ok : ∀ k, k < 7 → parseFieldDescriptor (TX5 k).2.2.1 = some (tyX5 k) := by decide +kernel
theorem wfX5 : ∀ k, k < 7 → u_lay RX5 TX5 k ∈ lg_tbl
  | 0, _ => tt_2 _ (List.mem_of_getElem? (i := 146) rfl) rfl
  | 1, _ => tt_2 _ (List.mem_of_getElem? (i := 148) rfl) rfl
  | 2, _ => tt_2 _ (List.mem_of_getElem? (i := 150) rfl) rfl
  | 3, _ => tt_2 _ (List.mem_of_getElem? (i := 152) rfl) rfl
  | 4, _ => tt_2 _ (List.mem_of_getElem? (i := 154) rfl) rfl
  | 5, _ => tt_2 _ (List.mem_of_getElem? (i := 156) rfl) rfl
  | 6, _ => tt_2 _ (List.mem_of_getElem? (i := 158) rfl) rfl
  | n + 7, h => absurd h (by omega)
theorem wsX5_in : ∀ w ∈ u_ws RX5 TX5 7, w ∈ lg_tbl := fun w hw => by
  obtain ⟨k, hk, rfl⟩ := List.mem_map.mp hw
  exact wfX5 k (List.mem_range.mp hk)
def RX6 : String := "ShareHouse$Names"
def TX6 : u_T := fun k => match k with
  | 0 => ("ShareHouse$Names", "text", "[B", true)
  | 1 => ("ShareHouse$Names", "length", "I", false)
  | 2 => ("ShareHouse$Names", "start", "[I", true)
  | 3 => ("ShareHouse$Names", "stop", "[I", true)
  | 4 => ("ShareHouse$Names", "kind", "[I", true)
  | 5 => ("ShareHouse$Names", "sort", "[I", true)
  | 6 => ("ShareHouse$Names", "size", "[I", true)
  | 7 => ("ShareHouse$Names", "base", "[I", true)
  | 8 => ("ShareHouse$Names", "params", "[I", true)
  | 9 => ("ShareHouse$Names", "declared", "I", false)
  | 10 => ("ShareHouse$Names", "visible", "[I", true)
  | 11 => ("ShareHouse$Names", "shown", "I", false)
  | _ => ("ShareHouse$Names", "floor", "I", false)
def tyX6 : Nat → FieldType := fun k => match k with
  | 0 => .array .byte
  | 1 => .int
  | 2 => .array .int
  | 3 => .array .int
  | 4 => .array .int
  | 5 => .array .int
  | 6 => .array .int
  | 7 => .array .int
  | 8 => .array .int
  | 9 => .int
  | 10 => .array .int
  | 11 => .int
  | _ => .int
theorem nmX6 : ∀ a, a < 13 → ∀ b, b < 13 → a ≠ b → (TX6 a).2.1 ≠ (TX6 b).2.1 := by decide +kernel
theorem tyX6_ok : ∀ k, k < 13 → parseFieldDescriptor (TX6 k).2.2.1 = some (tyX6 k) := by decide +kernel
theorem wfX6 : ∀ k, k < 13 → u_lay RX6 TX6 k ∈ lg_tbl
  | 0, _ => tt_1 _ (List.mem_of_getElem? (i := 115) rfl) rfl
  | 1, _ => tt_1 _ (List.mem_of_getElem? (i := 117) rfl) rfl
  | 2, _ => tt_1 _ (List.mem_of_getElem? (i := 119) rfl) rfl
  | 3, _ => tt_1 _ (List.mem_of_getElem? (i := 121) rfl) rfl
  | 4, _ => tt_1 _ (List.mem_of_getElem? (i := 123) rfl) rfl
  | 5, _ => tt_1 _ (List.mem_of_getElem? (i := 125) rfl) rfl
  | 6, _ => tt_1 _ (List.mem_of_getElem? (i := 127) rfl) rfl
  | 7, _ => tt_1 _ (List.mem_of_getElem? (i := 129) rfl) rfl
  | 8, _ => tt_1 _ (List.mem_of_getElem? (i := 131) rfl) rfl
  | 9, _ => tt_1 _ (List.mem_of_getElem? (i := 133) rfl) rfl
  | 10, _ => tt_1 _ (List.mem_of_getElem? (i := 135) rfl) rfl
  | 11, _ => tt_1 _ (List.mem_of_getElem? (i := 137) rfl) rfl
  | 12, _ => tt_1 _ (List.mem_of_getElem? (i := 139) rfl) rfl
  | n + 13, h => absurd h (by omega)
theorem wsX6_in : ∀ w ∈ u_ws RX6 TX6 13, w ∈ lg_tbl := fun w hw => by
  obtain ⟨k, hk, rfl⟩ := List.mem_map.mp hw
  exact wfX6 k (List.mem_range.mp hk)
def RX7 : String := "ShareHouse$Post"
def TX7 : u_T := fun k => match k with
  | 0 => ("ShareHouse$Post", "parties", "I", true)
  | 1 => ("ShareHouse$Post", "circuit", "LShareHouse$Circuit;", true)
  | 2 => ("ShareHouse$Post", "inputs", "LShareHouse$Inputs;", true)
  | 3 => ("ShareHouse$Post", "dealer", "LShareHouse$Dealer;", true)
  | 4 => ("ShareHouse$Post", "at", "[I", true)
  | 5 => ("ShareHouse$Post", "arrived", "[I", true)
  | 6 => ("ShareHouse$Post", "arrivedBits", "[I", true)
  | 7 => ("ShareHouse$Post", "came", "[I", true)
  | 8 => ("ShareHouse$Post", "cameEarly", "[I", true)
  | 9 => ("ShareHouse$Post", "flight", "[I", true)
  | 10 => ("ShareHouse$Post", "flying", "I", false)
  | 11 => ("ShareHouse$Post", "delivered", "I", false)
  | 12 => ("ShareHouse$Post", "done", "I", false)
  | 13 => ("ShareHouse$Post", "log", "[I", true)
  | _ => ("ShareHouse$Post", "logOfOne", "I", true)
def tyX7 : Nat → FieldType := fun k => match k with
  | 0 => .int
  | 1 => .object "ShareHouse$Circuit"
  | 2 => .object "ShareHouse$Inputs"
  | 3 => .object "ShareHouse$Dealer"
  | 4 => .array .int
  | 5 => .array .int
  | 6 => .array .int
  | 7 => .array .int
  | 8 => .array .int
  | 9 => .array .int
  | 10 => .int
  | 11 => .int
  | 12 => .int
  | 13 => .array .int
  | _ => .int
theorem nmX7 : ∀ a, a < 15 → ∀ b, b < 15 → a ≠ b → (TX7 a).2.1 ≠ (TX7 b).2.1 := by decide +kernel
theorem tyX7_ok : ∀ k, k < 15 → parseFieldDescriptor (TX7 k).2.2.1 = some (tyX7 k) := by decide +kernel
theorem wfX7 : ∀ k, k < 15 → u_lay RX7 TX7 k ∈ lg_tbl
  | 0, _ => tt_3 _ (List.mem_of_getElem? (i := 45) rfl) rfl
  | 1, _ => tt_3 _ (List.mem_of_getElem? (i := 47) rfl) rfl
  | 2, _ => tt_3 _ (List.mem_of_getElem? (i := 49) rfl) rfl
  | 3, _ => tt_3 _ (List.mem_of_getElem? (i := 51) rfl) rfl
  | 4, _ => tt_3 _ (List.mem_of_getElem? (i := 53) rfl) rfl
  | 5, _ => tt_3 _ (List.mem_of_getElem? (i := 55) rfl) rfl
  | 6, _ => tt_3 _ (List.mem_of_getElem? (i := 57) rfl) rfl
  | 7, _ => tt_3 _ (List.mem_of_getElem? (i := 59) rfl) rfl
  | 8, _ => tt_3 _ (List.mem_of_getElem? (i := 61) rfl) rfl
  | 9, _ => tt_3 _ (List.mem_of_getElem? (i := 63) rfl) rfl
  | 10, _ => tt_3 _ (List.mem_of_getElem? (i := 65) rfl) rfl
  | 11, _ => tt_3 _ (List.mem_of_getElem? (i := 67) rfl) rfl
  | 12, _ => tt_3 _ (List.mem_of_getElem? (i := 69) rfl) rfl
  | 13, _ => tt_3 _ (List.mem_of_getElem? (i := 71) rfl) rfl
  | 14, _ => tt_3 _ (List.mem_of_getElem? (i := 73) rfl) rfl
  | n + 15, h => absurd h (by omega)
theorem wsX7_in : ∀ w ∈ u_ws RX7 TX7 15, w ∈ lg_tbl := fun w hw => by
  obtain ⟨k, hk, rfl⟩ := List.mem_map.mp hw
  exact wfX7 k (List.mem_range.mp hk)
def RX8 : String := "ShareHouse$Reader"
def TX8 : u_T := fun k => match k with
  | 0 => ("ShareHouse$Reader", "words", "LShareHouse$Words;", true)
  | 1 => ("ShareHouse$Reader", "code", "LShareHouse$Code;", true)
  | 2 => ("ShareHouse$Reader", "names", "LShareHouse$Names;", true)
  | 3 => ("ShareHouse$Reader", "inputs", "LShareHouse$Inputs;", true)
  | 4 => ("ShareHouse$Reader", "parties", "I", true)
  | 5 => ("ShareHouse$Reader", "width", "I", true)
  | 6 => ("ShareHouse$Reader", "waiting", "[I", true)
  | 7 => ("ShareHouse$Reader", "waitingAt", "[I", true)
  | 8 => ("ShareHouse$Reader", "waitingRight", "[I", true)
  | 9 => ("ShareHouse$Reader", "waits", "I", false)
  | _ => ("ShareHouse$Reader", "varWords", "I", false)
def tyX8 : Nat → FieldType := fun k => match k with
  | 0 => .object "ShareHouse$Words"
  | 1 => .object "ShareHouse$Code"
  | 2 => .object "ShareHouse$Names"
  | 3 => .object "ShareHouse$Inputs"
  | 4 => .int
  | 5 => .int
  | 6 => .array .int
  | 7 => .array .int
  | 8 => .array .int
  | 9 => .int
  | _ => .int
theorem nmX8 : ∀ a, a < 11 → ∀ b, b < 11 → a ≠ b → (TX8 a).2.1 ≠ (TX8 b).2.1 := by decide +kernel
theorem tyX8_ok : ∀ k, k < 11 → parseFieldDescriptor (TX8 k).2.2.1 = some (tyX8 k) := by decide +kernel
theorem wfX8 : ∀ k, k < 11 → u_lay RX8 TX8 k ∈ lg_tbl
  | 0, _ => tt_2 _ (List.mem_of_getElem? (i := 64) rfl) rfl
  | 1, _ => tt_2 _ (List.mem_of_getElem? (i := 66) rfl) rfl
  | 2, _ => tt_2 _ (List.mem_of_getElem? (i := 68) rfl) rfl
  | 3, _ => tt_2 _ (List.mem_of_getElem? (i := 70) rfl) rfl
  | 4, _ => tt_2 _ (List.mem_of_getElem? (i := 72) rfl) rfl
  | 5, _ => tt_2 _ (List.mem_of_getElem? (i := 74) rfl) rfl
  | 6, _ => tt_2 _ (List.mem_of_getElem? (i := 76) rfl) rfl
  | 7, _ => tt_2 _ (List.mem_of_getElem? (i := 78) rfl) rfl
  | 8, _ => tt_2 _ (List.mem_of_getElem? (i := 80) rfl) rfl
  | 9, _ => tt_2 _ (List.mem_of_getElem? (i := 82) rfl) rfl
  | 10, _ => tt_2 _ (List.mem_of_getElem? (i := 84) rfl) rfl
  | n + 11, h => absurd h (by omega)
theorem wsX8_in : ∀ w ∈ u_ws RX8 TX8 11, w ∈ lg_tbl := fun w hw => by
  obtain ⟨k, hk, rfl⟩ := List.mem_map.mp hw
  exact wfX8 k (List.mem_range.mp hk)
def RX9 : String := "ShareHouse$Sorts"
def TX9 : u_T := fun k => match k with
  | 0 => ("ShareHouse$Sorts", "code", "LShareHouse$Code;", true)
  | 1 => ("ShareHouse$Sorts", "names", "LShareHouse$Names;", true)
  | 2 => ("ShareHouse$Sorts", "held", "[I", true)
  | 3 => ("ShareHouse$Sorts", "top", "I", false)
  | 4 => ("ShareHouse$Sorts", "scopes", "[I", true)
  | 5 => ("ShareHouse$Sorts", "open", "I", false)
  | 6 => ("ShareHouse$Sorts", "ahead", "[I", true)
  | 7 => ("ShareHouse$Sorts", "lowest", "[I", true)
  | 8 => ("ShareHouse$Sorts", "highest", "[I", true)
  | 9 => ("ShareHouse$Sorts", "ifs", "I", false)
  | _ => ("ShareHouse$Sorts", "varWords", "I", false)
def tyX9 : Nat → FieldType := fun k => match k with
  | 0 => .object "ShareHouse$Code"
  | 1 => .object "ShareHouse$Names"
  | 2 => .array .int
  | 3 => .int
  | 4 => .array .int
  | 5 => .int
  | 6 => .array .int
  | 7 => .array .int
  | 8 => .array .int
  | 9 => .int
  | _ => .int
theorem nmX9 : ∀ a, a < 11 → ∀ b, b < 11 → a ≠ b → (TX9 a).2.1 ≠ (TX9 b).2.1 := by decide +kernel
theorem tyX9_ok : ∀ k, k < 11 → parseFieldDescriptor (TX9 k).2.2.1 = some (tyX9 k) := by decide +kernel
theorem wfX9 : ∀ k, k < 11 → u_lay RX9 TX9 k ∈ lg_tbl
  | 0, _ => tt_2 _ (List.mem_of_getElem? (i := 104) rfl) rfl
  | 1, _ => tt_2 _ (List.mem_of_getElem? (i := 106) rfl) rfl
  | 2, _ => tt_2 _ (List.mem_of_getElem? (i := 108) rfl) rfl
  | 3, _ => tt_2 _ (List.mem_of_getElem? (i := 110) rfl) rfl
  | 4, _ => tt_2 _ (List.mem_of_getElem? (i := 112) rfl) rfl
  | 5, _ => tt_2 _ (List.mem_of_getElem? (i := 114) rfl) rfl
  | 6, _ => tt_2 _ (List.mem_of_getElem? (i := 116) rfl) rfl
  | 7, _ => tt_2 _ (List.mem_of_getElem? (i := 118) rfl) rfl
  | 8, _ => tt_2 _ (List.mem_of_getElem? (i := 120) rfl) rfl
  | 9, _ => tt_2 _ (List.mem_of_getElem? (i := 122) rfl) rfl
  | 10, _ => tt_2 _ (List.mem_of_getElem? (i := 124) rfl) rfl
  | n + 11, h => absurd h (by omega)
theorem wsX9_in : ∀ w ∈ u_ws RX9 TX9 11, w ∈ lg_tbl := fun w hw => by
  obtain ⟨k, hk, rfl⟩ := List.mem_map.mp hw
  exact wfX9 k (List.mem_range.mp hk)
def RX10 : String := "ShareHouse$Words"
def TX10 : u_T := fun k => match k with
  | 0 => ("ShareHouse$Words", "text", "[B", true)
  | 1 => ("ShareHouse$Words", "length", "I", false)
  | 2 => ("ShareHouse$Words", "kind", "I", false)
  | 3 => ("ShareHouse$Words", "start", "I", false)
  | _ => ("ShareHouse$Words", "stop", "I", false)
def tyX10 : Nat → FieldType := fun k => match k with
  | 0 => .array .byte
  | 1 => .int
  | 2 => .int
  | 3 => .int
  | _ => .int
theorem nmX10 : ∀ a, a < 5 → ∀ b, b < 5 → a ≠ b → (TX10 a).2.1 ≠ (TX10 b).2.1 := by decide +kernel
theorem tyX10_ok : ∀ k, k < 5 → parseFieldDescriptor (TX10 k).2.2.1 = some (tyX10 k) := by decide +kernel
theorem wfX10 : ∀ k, k < 5 → u_lay RX10 TX10 k ∈ lg_tbl
  | 0, _ => tt_2 _ (List.mem_of_getElem? (i := 42) rfl) rfl
  | 1, _ => tt_2 _ (List.mem_of_getElem? (i := 44) rfl) rfl
  | 2, _ => tt_2 _ (List.mem_of_getElem? (i := 46) rfl) rfl
  | 3, _ => tt_2 _ (List.mem_of_getElem? (i := 48) rfl) rfl
  | 4, _ => tt_2 _ (List.mem_of_getElem? (i := 50) rfl) rfl
  | n + 5, h => absurd h (by omega)
theorem wsX10_in : ∀ w ∈ u_ws RX10 TX10 5, w ∈ lg_tbl := fun w hw => by
  obtain ⟨k, hk, rfl⟩ := List.mem_map.mp hw
  exact wfX10 k (List.mem_range.mp hk)
def RX11 : String := "ShareHouse"
def TX11 : u_T := fun k => match k with
  | 0 => ("ShareHouse", "parties", "I", true)
  | 1 => ("ShareHouse", "width", "I", true)
  | 2 => ("ShareHouse", "ready", "[B", true)
  | 3 => ("ShareHouse", "tape", "[B", true)
  | 4 => ("ShareHouse", "taped", "I", false)
  | 5 => ("ShareHouse", "code", "LShareHouse$Code;", true)
  | 6 => ("ShareHouse", "names", "LShareHouse$Names;", true)
  | 7 => ("ShareHouse", "inputs", "LShareHouse$Inputs;", true)
  | 8 => ("ShareHouse", "circuit", "LShareHouse$Circuit;", true)
  | 9 => ("ShareHouse", "reader", "LShareHouse$Reader;", true)
  | 10 => ("ShareHouse", "sorts", "LShareHouse$Sorts;", true)
  | 11 => ("ShareHouse", "builder", "LShareHouse$Builder;", true)
  | 12 => ("ShareHouse", "dealer", "LShareHouse$Dealer;", true)
  | 13 => ("ShareHouse", "post", "LShareHouse$Post;", true)
  | 14 => ("ShareHouse", "built", "Z", false)
  | 15 => ("ShareHouse", "cut", "Z", false)
  | _ => ("ShareHouse", "worked", "Z", false)
def tyX11 : Nat → FieldType := fun k => match k with
  | 0 => .int
  | 1 => .int
  | 2 => .array .byte
  | 3 => .array .byte
  | 4 => .int
  | 5 => .object "ShareHouse$Code"
  | 6 => .object "ShareHouse$Names"
  | 7 => .object "ShareHouse$Inputs"
  | 8 => .object "ShareHouse$Circuit"
  | 9 => .object "ShareHouse$Reader"
  | 10 => .object "ShareHouse$Sorts"
  | 11 => .object "ShareHouse$Builder"
  | 12 => .object "ShareHouse$Dealer"
  | 13 => .object "ShareHouse$Post"
  | 14 => .boolean
  | 15 => .boolean
  | _ => .boolean
theorem nmX11 : ∀ a, a < 17 → ∀ b, b < 17 → a ≠ b → (TX11 a).2.1 ≠ (TX11 b).2.1 := by decide +kernel
theorem tyX11_ok : ∀ k, k < 17 → parseFieldDescriptor (TX11 k).2.2.1 = some (tyX11 k) := by decide +kernel
theorem wfX11 : ∀ k, k < 17 → u_lay RX11 TX11 k ∈ lg_tbl
  | 0, _ => tt_3 _ (List.mem_of_getElem? (i := 93) rfl) rfl
  | 1, _ => tt_3 _ (List.mem_of_getElem? (i := 95) rfl) rfl
  | 2, _ => tt_3 _ (List.mem_of_getElem? (i := 97) rfl) rfl
  | 3, _ => tt_3 _ (List.mem_of_getElem? (i := 99) rfl) rfl
  | 4, _ => tt_3 _ (List.mem_of_getElem? (i := 101) rfl) rfl
  | 5, _ => tt_3 _ (List.mem_of_getElem? (i := 103) rfl) rfl
  | 6, _ => tt_3 _ (List.mem_of_getElem? (i := 105) rfl) rfl
  | 7, _ => tt_3 _ (List.mem_of_getElem? (i := 107) rfl) rfl
  | 8, _ => tt_3 _ (List.mem_of_getElem? (i := 109) rfl) rfl
  | 9, _ => tt_3 _ (List.mem_of_getElem? (i := 111) rfl) rfl
  | 10, _ => tt_3 _ (List.mem_of_getElem? (i := 113) rfl) rfl
  | 11, _ => tt_3 _ (List.mem_of_getElem? (i := 115) rfl) rfl
  | 12, _ => tt_3 _ (List.mem_of_getElem? (i := 117) rfl) rfl
  | 13, _ => tt_3 _ (List.mem_of_getElem? (i := 119) rfl) rfl
  | 14, _ => tt_3 _ (List.mem_of_getElem? (i := 121) rfl) rfl
  | 15, _ => tt_3 _ (List.mem_of_getElem? (i := 123) rfl) rfl
  | 16, _ => tt_3 _ (List.mem_of_getElem? (i := 125) rfl) rfl
  | n + 17, h => absurd h (by omega)
theorem wsX11_in : ∀ w ∈ u_ws RX11 TX11 17, w ∈ lg_tbl := fun w hw => by
  obtain ⟨k, hk, rfl⟩ := List.mem_map.mp hw
  exact wfX11 k (List.mem_range.mp hk)
def RX12 : String := "ShareHouseModel"
def TX12 : u_T := fun k => match k with
  | 0 => ("ShareHouseModel", "n", "I", true)
  | 1 => ("ShareHouseModel", "w", "I", true)
  | 2 => ("ShareHouseModel", "mask", "J", true)
  | 3 => ("ShareHouseModel", "ready", "[I", true)
  | 4 => ("ShareHouseModel", "tape", "[I", true)
  | 5 => ("ShareHouseModel", "taped", "I", false)
  | 6 => ("ShareHouseModel", "at", "I", false)
  | 7 => ("ShareHouseModel", "fault", "I", false)
  | 8 => ("ShareHouseModel", "faultPlace", "I", false)
  | 9 => ("ShareHouseModel", "names", "I", false)
  | 10 => ("ShareHouseModel", "nameAt", "[I", true)
  | 11 => ("ShareHouseModel", "nameSize", "[I", true)
  | 12 => ("ShareHouseModel", "numberRead", "J", false)
  | 13 => ("ShareHouseModel", "many", "I", false)
  | 14 => ("ShareHouseModel", "kind", "[I", true)
  | 15 => ("ShareHouseModel", "one", "[I", true)
  | 16 => ("ShareHouseModel", "two", "[I", true)
  | 17 => ("ShareHouseModel", "place", "[I", true)
  | 18 => ("ShareHouseModel", "worth", "[J", true)
  | 19 => ("ShareHouseModel", "deep", "I", false)
  | 20 => ("ShareHouseModel", "waits", "I", false)
  | 21 => ("ShareHouseModel", "wait", "[I", true)
  | 22 => ("ShareHouseModel", "waitOne", "[I", true)
  | 23 => ("ShareHouseModel", "waitPlace", "[I", true)
  | 24 => ("ShareHouseModel", "waitMany", "[I", true)
  | 25 => ("ShareHouseModel", "wantsNext", "Z", false)
  | 26 => ("ShareHouseModel", "blocks", "I", false)
  | 27 => ("ShareHouseModel", "blockOf", "[I", true)
  | 28 => ("ShareHouseModel", "blockStep", "[I", true)
  | 29 => ("ShareHouseModel", "inputWords", "I", false)
  | 30 => ("ShareHouseModel", "varWords", "I", false)
  | 31 => ("ShareHouseModel", "size", "I", false)
  | 32 => ("ShareHouseModel", "sort", "I", false)
  | 33 => ("ShareHouseModel", "offset", "[I", true)
  | 34 => ("ShareHouseModel", "symbols", "I", false)
  | 35 => ("ShareHouseModel", "symName", "[I", true)
  | 36 => ("ShareHouseModel", "symKind", "[I", true)
  | 37 => ("ShareHouseModel", "symSort", "[I", true)
  | 38 => ("ShareHouseModel", "symSize", "[I", true)
  | 39 => ("ShareHouseModel", "symAt", "[I", true)
  | 40 => ("ShareHouseModel", "symSeen", "[Z", true)
  | 41 => ("ShareHouseModel", "symParams", "[I", true)
  | 42 => ("ShareHouseModel", "symMany", "[I", true)
  | 43 => ("ShareHouseModel", "piled", "I", false)
  | 44 => ("ShareHouseModel", "pileSort", "[I", true)
  | 45 => ("ShareHouseModel", "pileFrom", "[I", true)
  | 46 => ("ShareHouseModel", "pilePublic", "[Z", true)
  | 47 => ("ShareHouseModel", "inDef", "Z", false)
  | 48 => ("ShareHouseModel", "scopeStart", "[I", true)
  | 49 => ("ShareHouseModel", "scopes", "I", false)
  | 50 => ("ShareHouseModel", "refKind", "[I", true)
  | 51 => ("ShareHouseModel", "refAt", "[I", true)
  | 52 => ("ShareHouseModel", "refSize", "[I", true)
  | 53 => ("ShareHouseModel", "refSort", "[I", true)
  | 54 => ("ShareHouseModel", "asked", "[I", true)
  | 55 => ("ShareHouseModel", "isPublicAt", "[Z", true)
  | 56 => ("ShareHouseModel", "calls", "I", false)
  | 57 => ("ShareHouseModel", "callSymbol", "[I", true)
  | 58 => ("ShareHouseModel", "callMany", "[I", true)
  | 59 => ("ShareHouseModel", "inputOffset", "I", false)
  | 60 => ("ShareHouseModel", "params", "I", false)
  | 61 => ("ShareHouseModel", "defParams", "I", false)
  | 62 => ("ShareHouseModel", "defFirst", "I", false)
  | 63 => ("ShareHouseModel", "defStep", "I", false)
  | 64 => ("ShareHouseModel", "paramSort", "[I", true)
  | 65 => ("ShareHouseModel", "inputBits", "I", false)
  | 66 => ("ShareHouseModel", "gates", "I", false)
  | 67 => ("ShareHouseModel", "ands", "I", false)
  | 68 => ("ShareHouseModel", "deepest", "I", false)
  | 69 => ("ShareHouseModel", "outputs", "I", false)
  | 70 => ("ShareHouseModel", "steps", "I", false)
  | 71 => ("ShareHouseModel", "isAnd", "[I", true)
  | 72 => ("ShareHouseModel", "level", "[I", true)
  | 73 => ("ShareHouseModel", "left", "[I", true)
  | 74 => ("ShareHouseModel", "right", "[I", true)
  | 75 => ("ShareHouseModel", "inputs", "I", false)
  | 76 => ("ShareHouseModel", "inParty", "[I", true)
  | 77 => ("ShareHouseModel", "inBits", "[I", true)
  | 78 => ("ShareHouseModel", "inWire", "[I", true)
  | 79 => ("ShareHouseModel", "inValue", "[J", true)
  | 80 => ("ShareHouseModel", "dealtValue", "[J", true)
  | 81 => ("ShareHouseModel", "outBits", "[I", true)
  | 82 => ("ShareHouseModel", "outLiteral", "[I", true)
  | 83 => ("ShareHouseModel", "circuit", "Z", false)
  | 84 => ("ShareHouseModel", "bits", "[I", true)
  | 85 => ("ShareHouseModel", "top", "I", false)
  | 86 => ("ShareHouseModel", "x", "[I", true)
  | 87 => ("ShareHouseModel", "y", "[I", true)
  | 88 => ("ShareHouseModel", "z", "[I", true)
  | 89 => ("ShareHouseModel", "\x72", "[I", true)
  | 90 => ("ShareHouseModel", "q", "[I", true)
  | 91 => ("ShareHouseModel", "product", "[I", true)
  | 92 => ("ShareHouseModel", "rest", "[I", true)
  | 93 => ("ShareHouseModel", "quotient", "[I", true)
  | 94 => ("ShareHouseModel", "doing", "I", false)
  | 95 => ("ShareHouseModel", "doingPlace", "[I", true)
  | 96 => ("ShareHouseModel", "varLiteral", "[I", true)
  | 97 => ("ShareHouseModel", "alives", "I", false)
  | 98 => ("ShareHouseModel", "aliveAt", "[I", true)
  | 99 => ("ShareHouseModel", "aliveWords", "[I", true)
  | 100 => ("ShareHouseModel", "aliveBits", "[I", true)
  | 101 => ("ShareHouseModel", "ifs", "I", false)
  | 102 => ("ShareHouseModel", "ifLiteral", "[I", true)
  | 103 => ("ShareHouseModel", "ifAlive", "[I", true)
  | 104 => ("ShareHouseModel", "ifElse", "[Z", true)
  | 105 => ("ShareHouseModel", "before", "[I", true)
  | 106 => ("ShareHouseModel", "after", "[I", true)
  | 107 => ("ShareHouseModel", "loopNow", "[J", true)
  | 108 => ("ShareHouseModel", "loopEnd", "[J", true)
  | 109 => ("ShareHouseModel", "loopAlive", "[I", true)
  | 110 => ("ShareHouseModel", "frames", "I", false)
  | 111 => ("ShareHouseModel", "frameBase", "[I", true)
  | 112 => ("ShareHouseModel", "frameBack", "[I", true)
  | 113 => ("ShareHouseModel", "index", "[I", true)
  | 114 => ("ShareHouseModel", "pileWord", "[J", true)
  | 115 => ("ShareHouseModel", "meant", "I", false)
  | 116 => ("ShareHouseModel", "varWord", "[J", true)
  | 117 => ("ShareHouseModel", "outWord", "[J", true)
  | 118 => ("ShareHouseModel", "outs", "I", false)
  | 119 => ("ShareHouseModel", "meantNow", "Z", false)
  | 120 => ("ShareHouseModel", "seedNow", "I", false)
  | 121 => ("ShareHouseModel", "drawsWait", "I", false)
  | 122 => ("ShareHouseModel", "drawFirst", "I", false)
  | 123 => ("ShareHouseModel", "told0", "[I", true)
  | 124 => ("ShareHouseModel", "dealt", "Z", false)
  | 125 => ("ShareHouseModel", "shares", "[I", true)
  | 126 => ("ShareHouseModel", "tripleA", "[I", true)
  | 127 => ("ShareHouseModel", "tripleB", "[I", true)
  | 128 => ("ShareHouseModel", "tripleC", "[I", true)
  | 129 => ("ShareHouseModel", "levelFrom", "[I", true)
  | 130 => ("ShareHouseModel", "byLevel", "[I", true)
  | 131 => ("ShareHouseModel", "sentOf", "I", false)
  | 132 => ("ShareHouseModel", "round", "[I", true)
  | 133 => ("ShareHouseModel", "gotNow", "[I", true)
  | 134 => ("ShareHouseModel", "gotNext", "[I", true)
  | 135 => ("ShareHouseModel", "came", "[I", true)
  | 136 => ("ShareHouseModel", "cameBits", "[I", true)
  | 137 => ("ShareHouseModel", "cameFrom", "[I", true)
  | 138 => ("ShareHouseModel", "cameRound", "[I", true)
  | 139 => ("ShareHouseModel", "flying", "I", false)
  | 140 => ("ShareHouseModel", "delivered", "I", false)
  | 141 => ("ShareHouseModel", "flyFrom", "[I", true)
  | 142 => ("ShareHouseModel", "flyTo", "[I", true)
  | 143 => ("ShareHouseModel", "flyRound", "[I", true)
  | 144 => ("ShareHouseModel", "ownBits", "[I", true)
  | _ => ("ShareHouseModel", "outputBits", "I", false)
def tyX12 : Nat → FieldType := fun k => match k with
  | 0 => .int
  | 1 => .int
  | 2 => .long
  | 3 => .array .int
  | 4 => .array .int
  | 5 => .int
  | 6 => .int
  | 7 => .int
  | 8 => .int
  | 9 => .int
  | 10 => .array .int
  | 11 => .array .int
  | 12 => .long
  | 13 => .int
  | 14 => .array .int
  | 15 => .array .int
  | 16 => .array .int
  | 17 => .array .int
  | 18 => .array .long
  | 19 => .int
  | 20 => .int
  | 21 => .array .int
  | 22 => .array .int
  | 23 => .array .int
  | 24 => .array .int
  | 25 => .boolean
  | 26 => .int
  | 27 => .array .int
  | 28 => .array .int
  | 29 => .int
  | 30 => .int
  | 31 => .int
  | 32 => .int
  | 33 => .array .int
  | 34 => .int
  | 35 => .array .int
  | 36 => .array .int
  | 37 => .array .int
  | 38 => .array .int
  | 39 => .array .int
  | 40 => .array .boolean
  | 41 => .array .int
  | 42 => .array .int
  | 43 => .int
  | 44 => .array .int
  | 45 => .array .int
  | 46 => .array .boolean
  | 47 => .boolean
  | 48 => .array .int
  | 49 => .int
  | 50 => .array .int
  | 51 => .array .int
  | 52 => .array .int
  | 53 => .array .int
  | 54 => .array .int
  | 55 => .array .boolean
  | 56 => .int
  | 57 => .array .int
  | 58 => .array .int
  | 59 => .int
  | 60 => .int
  | 61 => .int
  | 62 => .int
  | 63 => .int
  | 64 => .array .int
  | 65 => .int
  | 66 => .int
  | 67 => .int
  | 68 => .int
  | 69 => .int
  | 70 => .int
  | 71 => .array .int
  | 72 => .array .int
  | 73 => .array .int
  | 74 => .array .int
  | 75 => .int
  | 76 => .array .int
  | 77 => .array .int
  | 78 => .array .int
  | 79 => .array .long
  | 80 => .array .long
  | 81 => .array .int
  | 82 => .array .int
  | 83 => .boolean
  | 84 => .array .int
  | 85 => .int
  | 86 => .array .int
  | 87 => .array .int
  | 88 => .array .int
  | 89 => .array .int
  | 90 => .array .int
  | 91 => .array .int
  | 92 => .array .int
  | 93 => .array .int
  | 94 => .int
  | 95 => .array .int
  | 96 => .array .int
  | 97 => .int
  | 98 => .array .int
  | 99 => .array .int
  | 100 => .array .int
  | 101 => .int
  | 102 => .array .int
  | 103 => .array .int
  | 104 => .array .boolean
  | 105 => .array .int
  | 106 => .array .int
  | 107 => .array .long
  | 108 => .array .long
  | 109 => .array .int
  | 110 => .int
  | 111 => .array .int
  | 112 => .array .int
  | 113 => .array .int
  | 114 => .array .long
  | 115 => .int
  | 116 => .array .long
  | 117 => .array .long
  | 118 => .int
  | 119 => .boolean
  | 120 => .int
  | 121 => .int
  | 122 => .int
  | 123 => .array .int
  | 124 => .boolean
  | 125 => .array .int
  | 126 => .array .int
  | 127 => .array .int
  | 128 => .array .int
  | 129 => .array .int
  | 130 => .array .int
  | 131 => .int
  | 132 => .array .int
  | 133 => .array .int
  | 134 => .array .int
  | 135 => .array .int
  | 136 => .array .int
  | 137 => .array .int
  | 138 => .array .int
  | 139 => .int
  | 140 => .int
  | 141 => .array .int
  | 142 => .array .int
  | 143 => .array .int
  | 144 => .array .int
  | _ => .int
theorem nmX12 : ∀ a, a < 146 → ∀ b, b < 146 → a ≠ b → (TX12 a).2.1 ≠ (TX12 b).2.1 := by decide +kernel
theorem tyX12_ok : ∀ k, k < 146 → parseFieldDescriptor (TX12 k).2.2.1 = some (tyX12 k) := by decide +kernel
theorem wfX12 : ∀ k, k < 146 → u_lay RX12 TX12 k ∈ lg_tbl
  | 0, _ => tt_7 _ (List.mem_of_getElem? (i := 199) rfl) rfl
  | 1, _ => tt_7 _ (List.mem_of_getElem? (i := 201) rfl) rfl
  | 2, _ => tt_7 _ (List.mem_of_getElem? (i := 203) rfl) rfl
  | 3, _ => tt_7 _ (List.mem_of_getElem? (i := 205) rfl) rfl
  | 4, _ => tt_7 _ (List.mem_of_getElem? (i := 207) rfl) rfl
  | 5, _ => tt_7 _ (List.mem_of_getElem? (i := 209) rfl) rfl
  | 6, _ => tt_7 _ (List.mem_of_getElem? (i := 211) rfl) rfl
  | 7, _ => tt_7 _ (List.mem_of_getElem? (i := 213) rfl) rfl
  | 8, _ => tt_7 _ (List.mem_of_getElem? (i := 215) rfl) rfl
  | 9, _ => tt_7 _ (List.mem_of_getElem? (i := 217) rfl) rfl
  | 10, _ => tt_7 _ (List.mem_of_getElem? (i := 219) rfl) rfl
  | 11, _ => tt_7 _ (List.mem_of_getElem? (i := 221) rfl) rfl
  | 12, _ => tt_7 _ (List.mem_of_getElem? (i := 223) rfl) rfl
  | 13, _ => tt_7 _ (List.mem_of_getElem? (i := 225) rfl) rfl
  | 14, _ => tt_7 _ (List.mem_of_getElem? (i := 227) rfl) rfl
  | 15, _ => tt_7 _ (List.mem_of_getElem? (i := 229) rfl) rfl
  | 16, _ => tt_7 _ (List.mem_of_getElem? (i := 231) rfl) rfl
  | 17, _ => tt_7 _ (List.mem_of_getElem? (i := 233) rfl) rfl
  | 18, _ => tt_7 _ (List.mem_of_getElem? (i := 235) rfl) rfl
  | 19, _ => tt_7 _ (List.mem_of_getElem? (i := 237) rfl) rfl
  | 20, _ => tt_7 _ (List.mem_of_getElem? (i := 239) rfl) rfl
  | 21, _ => tt_8 _ (List.mem_of_getElem? (i := 1) rfl) rfl
  | 22, _ => tt_8 _ (List.mem_of_getElem? (i := 3) rfl) rfl
  | 23, _ => tt_8 _ (List.mem_of_getElem? (i := 5) rfl) rfl
  | 24, _ => tt_8 _ (List.mem_of_getElem? (i := 7) rfl) rfl
  | 25, _ => tt_8 _ (List.mem_of_getElem? (i := 9) rfl) rfl
  | 26, _ => tt_8 _ (List.mem_of_getElem? (i := 11) rfl) rfl
  | 27, _ => tt_8 _ (List.mem_of_getElem? (i := 13) rfl) rfl
  | 28, _ => tt_8 _ (List.mem_of_getElem? (i := 15) rfl) rfl
  | 29, _ => tt_8 _ (List.mem_of_getElem? (i := 17) rfl) rfl
  | 30, _ => tt_8 _ (List.mem_of_getElem? (i := 19) rfl) rfl
  | 31, _ => tt_8 _ (List.mem_of_getElem? (i := 21) rfl) rfl
  | 32, _ => tt_8 _ (List.mem_of_getElem? (i := 23) rfl) rfl
  | 33, _ => tt_8 _ (List.mem_of_getElem? (i := 25) rfl) rfl
  | 34, _ => tt_8 _ (List.mem_of_getElem? (i := 27) rfl) rfl
  | 35, _ => tt_8 _ (List.mem_of_getElem? (i := 29) rfl) rfl
  | 36, _ => tt_8 _ (List.mem_of_getElem? (i := 31) rfl) rfl
  | 37, _ => tt_8 _ (List.mem_of_getElem? (i := 33) rfl) rfl
  | 38, _ => tt_8 _ (List.mem_of_getElem? (i := 35) rfl) rfl
  | 39, _ => tt_8 _ (List.mem_of_getElem? (i := 37) rfl) rfl
  | 40, _ => tt_8 _ (List.mem_of_getElem? (i := 39) rfl) rfl
  | 41, _ => tt_8 _ (List.mem_of_getElem? (i := 41) rfl) rfl
  | 42, _ => tt_8 _ (List.mem_of_getElem? (i := 43) rfl) rfl
  | 43, _ => tt_8 _ (List.mem_of_getElem? (i := 45) rfl) rfl
  | 44, _ => tt_8 _ (List.mem_of_getElem? (i := 47) rfl) rfl
  | 45, _ => tt_8 _ (List.mem_of_getElem? (i := 49) rfl) rfl
  | 46, _ => tt_8 _ (List.mem_of_getElem? (i := 51) rfl) rfl
  | 47, _ => tt_8 _ (List.mem_of_getElem? (i := 53) rfl) rfl
  | 48, _ => tt_8 _ (List.mem_of_getElem? (i := 55) rfl) rfl
  | 49, _ => tt_8 _ (List.mem_of_getElem? (i := 57) rfl) rfl
  | 50, _ => tt_8 _ (List.mem_of_getElem? (i := 59) rfl) rfl
  | 51, _ => tt_8 _ (List.mem_of_getElem? (i := 61) rfl) rfl
  | 52, _ => tt_8 _ (List.mem_of_getElem? (i := 63) rfl) rfl
  | 53, _ => tt_8 _ (List.mem_of_getElem? (i := 65) rfl) rfl
  | 54, _ => tt_8 _ (List.mem_of_getElem? (i := 67) rfl) rfl
  | 55, _ => tt_8 _ (List.mem_of_getElem? (i := 69) rfl) rfl
  | 56, _ => tt_8 _ (List.mem_of_getElem? (i := 71) rfl) rfl
  | 57, _ => tt_8 _ (List.mem_of_getElem? (i := 73) rfl) rfl
  | 58, _ => tt_8 _ (List.mem_of_getElem? (i := 75) rfl) rfl
  | 59, _ => tt_8 _ (List.mem_of_getElem? (i := 77) rfl) rfl
  | 60, _ => tt_8 _ (List.mem_of_getElem? (i := 79) rfl) rfl
  | 61, _ => tt_8 _ (List.mem_of_getElem? (i := 81) rfl) rfl
  | 62, _ => tt_8 _ (List.mem_of_getElem? (i := 83) rfl) rfl
  | 63, _ => tt_8 _ (List.mem_of_getElem? (i := 85) rfl) rfl
  | 64, _ => tt_8 _ (List.mem_of_getElem? (i := 87) rfl) rfl
  | 65, _ => tt_8 _ (List.mem_of_getElem? (i := 89) rfl) rfl
  | 66, _ => tt_8 _ (List.mem_of_getElem? (i := 91) rfl) rfl
  | 67, _ => tt_8 _ (List.mem_of_getElem? (i := 93) rfl) rfl
  | 68, _ => tt_8 _ (List.mem_of_getElem? (i := 95) rfl) rfl
  | 69, _ => tt_8 _ (List.mem_of_getElem? (i := 97) rfl) rfl
  | 70, _ => tt_8 _ (List.mem_of_getElem? (i := 99) rfl) rfl
  | 71, _ => tt_8 _ (List.mem_of_getElem? (i := 101) rfl) rfl
  | 72, _ => tt_8 _ (List.mem_of_getElem? (i := 103) rfl) rfl
  | 73, _ => tt_8 _ (List.mem_of_getElem? (i := 105) rfl) rfl
  | 74, _ => tt_8 _ (List.mem_of_getElem? (i := 107) rfl) rfl
  | 75, _ => tt_8 _ (List.mem_of_getElem? (i := 109) rfl) rfl
  | 76, _ => tt_8 _ (List.mem_of_getElem? (i := 111) rfl) rfl
  | 77, _ => tt_8 _ (List.mem_of_getElem? (i := 113) rfl) rfl
  | 78, _ => tt_8 _ (List.mem_of_getElem? (i := 115) rfl) rfl
  | 79, _ => tt_8 _ (List.mem_of_getElem? (i := 117) rfl) rfl
  | 80, _ => tt_8 _ (List.mem_of_getElem? (i := 119) rfl) rfl
  | 81, _ => tt_8 _ (List.mem_of_getElem? (i := 121) rfl) rfl
  | 82, _ => tt_8 _ (List.mem_of_getElem? (i := 123) rfl) rfl
  | 83, _ => tt_8 _ (List.mem_of_getElem? (i := 125) rfl) rfl
  | 84, _ => tt_8 _ (List.mem_of_getElem? (i := 127) rfl) rfl
  | 85, _ => tt_8 _ (List.mem_of_getElem? (i := 129) rfl) rfl
  | 86, _ => tt_8 _ (List.mem_of_getElem? (i := 131) rfl) rfl
  | 87, _ => tt_8 _ (List.mem_of_getElem? (i := 133) rfl) rfl
  | 88, _ => tt_8 _ (List.mem_of_getElem? (i := 135) rfl) rfl
  | 89, _ => tt_8 _ (List.mem_of_getElem? (i := 137) rfl) rfl
  | 90, _ => tt_8 _ (List.mem_of_getElem? (i := 139) rfl) rfl
  | 91, _ => tt_8 _ (List.mem_of_getElem? (i := 141) rfl) rfl
  | 92, _ => tt_8 _ (List.mem_of_getElem? (i := 143) rfl) rfl
  | 93, _ => tt_8 _ (List.mem_of_getElem? (i := 145) rfl) rfl
  | 94, _ => tt_8 _ (List.mem_of_getElem? (i := 147) rfl) rfl
  | 95, _ => tt_8 _ (List.mem_of_getElem? (i := 149) rfl) rfl
  | 96, _ => tt_8 _ (List.mem_of_getElem? (i := 151) rfl) rfl
  | 97, _ => tt_8 _ (List.mem_of_getElem? (i := 153) rfl) rfl
  | 98, _ => tt_8 _ (List.mem_of_getElem? (i := 155) rfl) rfl
  | 99, _ => tt_8 _ (List.mem_of_getElem? (i := 157) rfl) rfl
  | 100, _ => tt_8 _ (List.mem_of_getElem? (i := 159) rfl) rfl
  | 101, _ => tt_8 _ (List.mem_of_getElem? (i := 161) rfl) rfl
  | 102, _ => tt_8 _ (List.mem_of_getElem? (i := 163) rfl) rfl
  | 103, _ => tt_8 _ (List.mem_of_getElem? (i := 165) rfl) rfl
  | 104, _ => tt_8 _ (List.mem_of_getElem? (i := 167) rfl) rfl
  | 105, _ => tt_8 _ (List.mem_of_getElem? (i := 169) rfl) rfl
  | 106, _ => tt_8 _ (List.mem_of_getElem? (i := 171) rfl) rfl
  | 107, _ => tt_8 _ (List.mem_of_getElem? (i := 173) rfl) rfl
  | 108, _ => tt_8 _ (List.mem_of_getElem? (i := 175) rfl) rfl
  | 109, _ => tt_8 _ (List.mem_of_getElem? (i := 177) rfl) rfl
  | 110, _ => tt_8 _ (List.mem_of_getElem? (i := 179) rfl) rfl
  | 111, _ => tt_8 _ (List.mem_of_getElem? (i := 181) rfl) rfl
  | 112, _ => tt_8 _ (List.mem_of_getElem? (i := 183) rfl) rfl
  | 113, _ => tt_8 _ (List.mem_of_getElem? (i := 185) rfl) rfl
  | 114, _ => tt_8 _ (List.mem_of_getElem? (i := 187) rfl) rfl
  | 115, _ => tt_8 _ (List.mem_of_getElem? (i := 189) rfl) rfl
  | 116, _ => tt_8 _ (List.mem_of_getElem? (i := 191) rfl) rfl
  | 117, _ => tt_8 _ (List.mem_of_getElem? (i := 193) rfl) rfl
  | 118, _ => tt_8 _ (List.mem_of_getElem? (i := 195) rfl) rfl
  | 119, _ => tt_8 _ (List.mem_of_getElem? (i := 197) rfl) rfl
  | 120, _ => tt_8 _ (List.mem_of_getElem? (i := 199) rfl) rfl
  | 121, _ => tt_8 _ (List.mem_of_getElem? (i := 201) rfl) rfl
  | 122, _ => tt_8 _ (List.mem_of_getElem? (i := 203) rfl) rfl
  | 123, _ => tt_8 _ (List.mem_of_getElem? (i := 205) rfl) rfl
  | 124, _ => tt_8 _ (List.mem_of_getElem? (i := 207) rfl) rfl
  | 125, _ => tt_8 _ (List.mem_of_getElem? (i := 209) rfl) rfl
  | 126, _ => tt_8 _ (List.mem_of_getElem? (i := 211) rfl) rfl
  | 127, _ => tt_8 _ (List.mem_of_getElem? (i := 213) rfl) rfl
  | 128, _ => tt_8 _ (List.mem_of_getElem? (i := 215) rfl) rfl
  | 129, _ => tt_8 _ (List.mem_of_getElem? (i := 217) rfl) rfl
  | 130, _ => tt_8 _ (List.mem_of_getElem? (i := 219) rfl) rfl
  | 131, _ => tt_8 _ (List.mem_of_getElem? (i := 221) rfl) rfl
  | 132, _ => tt_8 _ (List.mem_of_getElem? (i := 223) rfl) rfl
  | 133, _ => tt_8 _ (List.mem_of_getElem? (i := 225) rfl) rfl
  | 134, _ => tt_8 _ (List.mem_of_getElem? (i := 227) rfl) rfl
  | 135, _ => tt_8 _ (List.mem_of_getElem? (i := 229) rfl) rfl
  | 136, _ => tt_8 _ (List.mem_of_getElem? (i := 231) rfl) rfl
  | 137, _ => tt_8 _ (List.mem_of_getElem? (i := 233) rfl) rfl
  | 138, _ => tt_8 _ (List.mem_of_getElem? (i := 235) rfl) rfl
  | 139, _ => tt_8 _ (List.mem_of_getElem? (i := 237) rfl) rfl
  | 140, _ => tt_8 _ (List.mem_of_getElem? (i := 239) rfl) rfl
  | 141, _ => tt_9 _ (List.mem_of_getElem? (i := 1) rfl) rfl
  | 142, _ => tt_9 _ (List.mem_of_getElem? (i := 3) rfl) rfl
  | 143, _ => tt_9 _ (List.mem_of_getElem? (i := 5) rfl) rfl
  | 144, _ => tt_9 _ (List.mem_of_getElem? (i := 7) rfl) rfl
  | 145, _ => tt_9 _ (List.mem_of_getElem? (i := 9) rfl) rfl
  | n + 146, h => absurd h (by omega)
theorem wsX12_in : ∀ w ∈ u_ws RX12 TX12 146, w ∈ lg_tbl := fun w hw => by
  obtain ⟨k, hk, rfl⟩ := List.mem_map.mp hw
  exact wfX12 k (List.mem_range.mp hk)
abbrev vwCl : List vw_C := [(RX0, TX0, 19), (RX1, TX1, 15), (RX2, TX2, 7), (RX3, TX3, 9), (RX4, TX4, 8), (RX5, TX5, 7), (RX6, TX6, 13), (RX7, TX7, 15), (RX8, TX8, 11), (RX9, TX9, 11), (RX10, TX10, 5), (RX11, TX11, 17), (RX12, TX12, 146)]
