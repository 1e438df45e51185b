def hh_L_append : List (Nat × Nat × Nat × Nat) := [(0, 9, 12, 13), (0, 9, 15, 15)]
theorem wc_L_append : Cond.codeWith yL_append cL_append 4 (some .int) hh_L_append ∈ lwA := tm3 (i := 156) rfl rfl
theorem wm_L_append {w : Cond} (h : w ∈ ([.static yL_append, .initialized yL_append.cls, .codeWith yL_append cL_append 4 (some .int) hh_L_append] : List Cond)) : w ∈ lwA := by
  rcases List.mem_cons.mp h with h | h
  · rw [h]; exact tm3 (i := 155) rfl rfl
  rcases List.mem_cons.mp h with h | h
  · rw [h]; exact tm1 (i := 0) rfl rfl
  rw [List.mem_singleton.mp h]; exact wc_L_append
def hh_L_setWeight : List (Nat × Nat × Nat × Nat) := [(0, 10, 13, 21), (0, 10, 17, 13)]
theorem wc_L_setWeight : Cond.codeWith yL_setWeight cL_setWeight 5 (some .int) hh_L_setWeight ∈ lwA := tm3 (i := 185) rfl rfl
theorem wm_L_setWeight {w : Cond} (h : w ∈ ([.static yL_setWeight, .initialized yL_setWeight.cls, .codeWith yL_setWeight cL_setWeight 5 (some .int) hh_L_setWeight] : List Cond)) : w ∈ lwA := by
  rcases List.mem_cons.mp h with h | h
  · rw [h]; exact tm3 (i := 184) rfl rfl
  rcases List.mem_cons.mp h with h | h
  · rw [h]; exact tm1 (i := 0) rfl rfl
  rw [List.mem_singleton.mp h]; exact wc_L_setWeight
def hh_L_setKind : List (Nat × Nat × Nat × Nat) := [(0, 12, 15, 21), (0, 12, 19, 13)]
theorem wc_L_setKind : Cond.codeWith yL_setKind cL_setKind 6 (some .int) hh_L_setKind ∈ lwA := tm3 (i := 193) rfl rfl
theorem wm_L_setKind {w : Cond} (h : w ∈ ([.static yL_setKind, .initialized yL_setKind.cls, .codeWith yL_setKind cL_setKind 6 (some .int) hh_L_setKind] : List Cond)) : w ∈ lwA := by
  rcases List.mem_cons.mp h with h | h
  · rw [h]; exact tm3 (i := 192) rfl rfl
  rcases List.mem_cons.mp h with h | h
  · rw [h]; exact tm1 (i := 0) rfl rfl
  rw [List.mem_singleton.mp h]; exact wc_L_setKind
def hh_L_remove : List (Nat × Nat × Nat × Nat) := [(0, 9, 12, 21)]
theorem wc_L_remove : Cond.codeWith yL_remove cL_remove 4 (some .int) hh_L_remove ∈ lwA := tm3 (i := 200) rfl rfl
theorem wm_L_remove {w : Cond} (h : w ∈ ([.static yL_remove, .initialized yL_remove.cls, .codeWith yL_remove cL_remove 4 (some .int) hh_L_remove] : List Cond)) : w ∈ lwA := by
  rcases List.mem_cons.mp h with h | h
  · rw [h]; exact tm3 (i := 199) rfl rfl
  rcases List.mem_cons.mp h with h | h
  · rw [h]; exact tm1 (i := 0) rfl rfl
  rw [List.mem_singleton.mp h]; exact wc_L_remove
def hh_L_setCanvas : List (Nat × Nat × Nat × Nat) := [(0, 10, 13, 13)]
theorem wc_L_setCanvas : Cond.codeWith yL_setCanvas cL_setCanvas 5 (some .int) hh_L_setCanvas ∈ lwA := tm3 (i := 211) rfl rfl
theorem wm_L_setCanvas {w : Cond} (h : w ∈ ([.static yL_setCanvas, .initialized yL_setCanvas.cls, .codeWith yL_setCanvas cL_setCanvas 5 (some .int) hh_L_setCanvas] : List Cond)) : w ∈ lwA := by
  rcases List.mem_cons.mp h with h | h
  · rw [h]; exact tm3 (i := 210) rfl rfl
  rcases List.mem_cons.mp h with h | h
  · rw [h]; exact tm1 (i := 0) rfl rfl
  rw [List.mem_singleton.mp h]; exact wc_L_setCanvas
def hh_L_setWays : List (Nat × Nat × Nat × Nat) := [(0, 12, 15, 13)]
theorem wc_L_setWays : Cond.codeWith yL_setWays cL_setWays 6 (some .int) hh_L_setWays ∈ lwA := tm3 (i := 218) rfl rfl
theorem wm_L_setWays {w : Cond} (h : w ∈ ([.static yL_setWays, .initialized yL_setWays.cls, .codeWith yL_setWays cL_setWays 6 (some .int) hh_L_setWays] : List Cond)) : w ∈ lwA := by
  rcases List.mem_cons.mp h with h | h
  · rw [h]; exact tm3 (i := 217) rfl rfl
  rcases List.mem_cons.mp h with h | h
  · rw [h]; exact tm1 (i := 0) rfl rfl
  rw [List.mem_singleton.mp h]; exact wc_L_setWays
def hh_L_word : List (Nat × Nat × Nat × Nat) := [(0, 10, 13, 21), (0, 10, 17, 13)]
theorem wc_L_word : Cond.codeWith yL_word cL_word 5 (some .int) hh_L_word ∈ lwA := tm3 (i := 225) rfl rfl
theorem wm_L_word {w : Cond} (h : w ∈ ([.static yL_word, .initialized yL_word.cls, .codeWith yL_word cL_word 5 (some .int) hh_L_word] : List Cond)) : w ∈ lwA := by
  rcases List.mem_cons.mp h with h | h
  · rw [h]; exact tm3 (i := 224) rfl rfl
  rcases List.mem_cons.mp h with h | h
  · rw [h]; exact tm1 (i := 0) rfl rfl
  rw [List.mem_singleton.mp h]; exact wc_L_word
def hh_L_letter : List (Nat × Nat × Nat × Nat) := [(0, 10, 13, 21)]
theorem wc_L_letter : Cond.codeWith yL_letter cL_letter 5 (some .int) hh_L_letter ∈ lwA := tm3 (i := 229) rfl rfl
theorem wm_L_letter {w : Cond} (h : w ∈ ([.static yL_letter, .initialized yL_letter.cls, .codeWith yL_letter cL_letter 5 (some .int) hh_L_letter] : List Cond)) : w ∈ lwA := by
  rcases List.mem_cons.mp h with h | h
  · rw [h]; exact tm3 (i := 228) rfl rfl
  rcases List.mem_cons.mp h with h | h
  · rw [h]; exact tm1 (i := 0) rfl rfl
  rw [List.mem_singleton.mp h]; exact wc_L_letter
def hh_L_value : List (Nat × Nat × Nat × Nat) := [(0, 9, 12, 13)]
theorem wc_L_value : Cond.codeWith yL_value cL_value 4 (some .int) hh_L_value ∈ lwA := tm3 (i := 233) rfl rfl
theorem wm_L_value {w : Cond} (h : w ∈ ([.static yL_value, .initialized yL_value.cls, .codeWith yL_value cL_value 4 (some .int) hh_L_value] : List Cond)) : w ∈ lwA := by
  rcases List.mem_cons.mp h with h | h
  · rw [h]; exact tm3 (i := 232) rfl rfl
  rcases List.mem_cons.mp h with h | h
  · rw [h]; exact tm1 (i := 0) rfl rfl
  rw [List.mem_singleton.mp h]; exact wc_L_value
def hh_L_place : List (Nat × Nat × Nat × Nat) := [(0, 10, 13, 21), (0, 10, 17, 13)]
theorem wc_L_place : Cond.codeWith yL_place cL_place 5 (some .int) hh_L_place ∈ lwA := tm3 (i := 237) rfl rfl
theorem wm_L_place {w : Cond} (h : w ∈ ([.static yL_place, .initialized yL_place.cls, .codeWith yL_place cL_place 5 (some .int) hh_L_place] : List Cond)) : w ∈ lwA := by
  rcases List.mem_cons.mp h with h | h
  · rw [h]; exact tm3 (i := 236) rfl rfl
  rcases List.mem_cons.mp h with h | h
  · rw [h]; exact tm1 (i := 0) rfl rfl
  rw [List.mem_singleton.mp h]; exact wc_L_place
def hh_L_wordAt : List (Nat × Nat × Nat × Nat) := [(0, 10, 13, 21)]
theorem wc_L_wordAt : Cond.codeWith yL_wordAt cL_wordAt 5 (some .int) hh_L_wordAt ∈ lwA := tm4 (i := 1) rfl rfl
theorem wm_L_wordAt {w : Cond} (h : w ∈ ([.static yL_wordAt, .initialized yL_wordAt.cls, .codeWith yL_wordAt cL_wordAt 5 (some .int) hh_L_wordAt] : List Cond)) : w ∈ lwA := by
  rcases List.mem_cons.mp h with h | h
  · rw [h]; exact tm4 (i := 0) rfl rfl
  rcases List.mem_cons.mp h with h | h
  · rw [h]; exact tm1 (i := 0) rfl rfl
  rw [List.mem_singleton.mp h]; exact wc_L_wordAt
def hh_L_extent : List (Nat × Nat × Nat × Nat) := [(0, 9, 12, 13)]
theorem wc_L_extent : Cond.codeWith yL_extent cL_extent 4 (some .int) hh_L_extent ∈ lwA := tm4 (i := 13) rfl rfl
theorem wm_L_extent {w : Cond} (h : w ∈ ([.static yL_extent, .initialized yL_extent.cls, .codeWith yL_extent cL_extent 4 (some .int) hh_L_extent] : List Cond)) : w ∈ lwA := by
  rcases List.mem_cons.mp h with h | h
  · rw [h]; exact tm4 (i := 12) rfl rfl
  rcases List.mem_cons.mp h with h | h
  · rw [h]; exact tm1 (i := 0) rfl rfl
  rw [List.mem_singleton.mp h]; exact wc_L_extent
def hh_L_spread : List (Nat × Nat × Nat × Nat) := [(0, 9, 12, 21)]
theorem wc_L_spread : Cond.codeWith yL_spread cL_spread 4 (some .int) hh_L_spread ∈ lwA := tm4 (i := 17) rfl rfl
theorem wm_L_spread {w : Cond} (h : w ∈ ([.static yL_spread, .initialized yL_spread.cls, .codeWith yL_spread cL_spread 4 (some .int) hh_L_spread] : List Cond)) : w ∈ lwA := by
  rcases List.mem_cons.mp h with h | h
  · rw [h]; exact tm4 (i := 16) rfl rfl
  rcases List.mem_cons.mp h with h | h
  · rw [h]; exact tm1 (i := 0) rfl rfl
  rw [List.mem_singleton.mp h]; exact wc_L_spread
def hh_L_placedOn : List (Nat × Nat × Nat × Nat) := [(0, 12, 15, 13)]
theorem wc_L_placedOn : Cond.codeWith yL_placedOn cL_placedOn 6 (some .int) hh_L_placedOn ∈ lwA := tm4 (i := 37) rfl rfl
theorem wm_L_placedOn {w : Cond} (h : w ∈ ([.static yL_placedOn, .initialized yL_placedOn.cls, .codeWith yL_placedOn cL_placedOn 6 (some .int) hh_L_placedOn] : List Cond)) : w ∈ lwA := by
  rcases List.mem_cons.mp h with h | h
  · rw [h]; exact tm4 (i := 36) rfl rfl
  rcases List.mem_cons.mp h with h | h
  · rw [h]; exact tm1 (i := 0) rfl rfl
  rw [List.mem_singleton.mp h]; exact wc_L_placedOn
def hh_L_movedBy : List (Nat × Nat × Nat × Nat) := [(0, 10, 13, 21), (0, 10, 17, 13)]
theorem wc_L_movedBy : Cond.codeWith yL_movedBy cL_movedBy 5 (some .int) hh_L_movedBy ∈ lwA := tm4 (i := 44) rfl rfl
theorem wm_L_movedBy {w : Cond} (h : w ∈ ([.static yL_movedBy, .initialized yL_movedBy.cls, .codeWith yL_movedBy cL_movedBy 5 (some .int) hh_L_movedBy] : List Cond)) : w ∈ lwA := by
  rcases List.mem_cons.mp h with h | h
  · rw [h]; exact tm4 (i := 43) rfl rfl
  rcases List.mem_cons.mp h with h | h
  · rw [h]; exact tm1 (i := 0) rfl rfl
  rw [List.mem_singleton.mp h]; exact wc_L_movedBy
def hh_L_undo : List (Nat × Nat × Nat × Nat) := [(0, 8, 11, 15)]
theorem wc_L_undo : Cond.codeWith yL_undo cL_undo 3 (some .int) hh_L_undo ∈ lwA := tm4 (i := 51) rfl rfl
theorem wm_L_undo {w : Cond} (h : w ∈ ([.static yL_undo, .initialized yL_undo.cls, .codeWith yL_undo cL_undo 3 (some .int) hh_L_undo] : List Cond)) : w ∈ lwA := by
  rcases List.mem_cons.mp h with h | h
  · rw [h]; exact tm4 (i := 50) rfl rfl
  rcases List.mem_cons.mp h with h | h
  · rw [h]; exact tm1 (i := 0) rfl rfl
  rw [List.mem_singleton.mp h]; exact wc_L_undo
theorem wx_0 : Cond.classLink RL 13 (exn 0) ∈ lwA := tm3 (i := 157) rfl rfl
theorem wx_1 : Cond.classLink RL 15 (exn 1) ∈ lwA := tm3 (i := 158) rfl rfl
theorem wx_2 : Cond.classLink RL 21 (exn 2) ∈ lwA := tm3 (i := 186) rfl rfl
