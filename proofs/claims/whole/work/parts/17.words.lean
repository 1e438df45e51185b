theorem tm1 {i : Nat} {w : Cond} (h : tables_1_1[i]? = some w) (hg : goodWord w = true) : w ∈ lwA := List.mem_filter.mpr ⟨List.mem_append_right _ (by unfold tables_1; simp only [List.mem_append]; exact Or.inl (List.mem_of_getElem? h)), hg⟩
theorem tm2 {i : Nat} {w : Cond} (h : tables_1_2[i]? = some w) (hg : goodWord w = true) : w ∈ lwA := List.mem_filter.mpr ⟨List.mem_append_right _ (by unfold tables_1; simp only [List.mem_append]; exact Or.inr (Or.inl (List.mem_of_getElem? h))), hg⟩
theorem tm3 {i : Nat} {w : Cond} (h : tables_1_3[i]? = some w) (hg : goodWord w = true) : w ∈ lwA := List.mem_filter.mpr ⟨List.mem_append_right _ (by unfold tables_1; simp only [List.mem_append]; exact Or.inr (Or.inr (Or.inl (List.mem_of_getElem? h)))), hg⟩
theorem tm4 {i : Nat} {w : Cond} (h : tables_1_4[i]? = some w) (hg : goodWord w = true) : w ∈ lwA := List.mem_filter.mpr ⟨List.mem_append_right _ (by unfold tables_1; simp only [List.mem_append]; exact Or.inr (Or.inr (Or.inr (Or.inl (List.mem_of_getElem? h))))), hg⟩
theorem tm5 {i : Nat} {w : Cond} (h : tables_1_5[i]? = some w) (hg : goodWord w = true) : w ∈ lwA := List.mem_filter.mpr ⟨List.mem_append_right _ (by unfold tables_1; simp only [List.mem_append]; exact Or.inr (Or.inr (Or.inr (Or.inr (List.mem_of_getElem? h))))), hg⟩
theorem tmp {i : Nat} {w : Cond} (h : (k2_sels lw_privs)[i]? = some w) (hg : goodWord w = true) : w ∈ lwA := List.mem_filter.mpr ⟨List.mem_append_left _ (List.mem_of_getElem? h), hg⟩
theorem ftX0_ok : ∀ q ∈ ftX0, FieldOK RX0 q.1 q.2.1 q.2.2 := List.forall_mem_cons.mpr ⟨⟨by decide, by decide, tm1 (i := 65) rfl rfl⟩, List.forall_mem_cons.mpr ⟨⟨by decide, by decide, tm1 (i := 70) rfl rfl⟩, List.forall_mem_cons.mpr ⟨⟨by decide, by decide, tm1 (i := 73) rfl rfl⟩, List.forall_mem_cons.mpr ⟨⟨by decide, by decide, tm1 (i := 76) rfl rfl⟩, List.forall_mem_cons.mpr ⟨⟨by decide, by decide, tm1 (i := 79) rfl rfl⟩, List.forall_mem_cons.mpr ⟨⟨by decide, by decide, tm1 (i := 82) rfl rfl⟩, fun _ h => (List.not_mem_nil h).elim⟩⟩⟩⟩⟩⟩
theorem ftX1_ok : ∀ q ∈ ftX1, FieldOK RX1 q.1 q.2.1 q.2.2 := List.forall_mem_cons.mpr ⟨⟨by decide, by decide, tm1 (i := 133) rfl rfl⟩, List.forall_mem_cons.mpr ⟨⟨by decide, by decide, tm1 (i := 141) rfl rfl⟩, List.forall_mem_cons.mpr ⟨⟨by decide, by decide, tm1 (i := 144) rfl rfl⟩, List.forall_mem_cons.mpr ⟨⟨by decide, by decide, tm1 (i := 150) rfl rfl⟩, List.forall_mem_cons.mpr ⟨⟨by decide, by decide, tm1 (i := 153) rfl rfl⟩, List.forall_mem_cons.mpr ⟨⟨by decide, by decide, tm1 (i := 137) rfl rfl⟩, List.forall_mem_cons.mpr ⟨⟨by decide, by decide, tm1 (i := 147) rfl rfl⟩, List.forall_mem_cons.mpr ⟨⟨by decide, by decide, tm1 (i := 155) rfl rfl⟩, List.forall_mem_cons.mpr ⟨⟨by decide, by decide, tm1 (i := 103) rfl rfl⟩, List.forall_mem_cons.mpr ⟨⟨by decide, by decide, tm1 (i := 68) rfl rfl⟩, List.forall_mem_cons.mpr ⟨⟨by decide, by decide, tm1 (i := 112) rfl rfl⟩, fun _ h => (List.not_mem_nil h).elim⟩⟩⟩⟩⟩⟩⟩⟩⟩⟩⟩
theorem ftX2_ok : ∀ q ∈ ftX2, FieldOK RX2 q.1 q.2.1 q.2.2 := List.forall_mem_cons.mpr ⟨⟨by decide, by decide, tm1 (i := 98) rfl rfl⟩, List.forall_mem_cons.mpr ⟨⟨by decide, by decide, tm1 (i := 101) rfl rfl⟩, List.forall_mem_cons.mpr ⟨⟨by decide, by decide, tm1 (i := 105) rfl rfl⟩, List.forall_mem_cons.mpr ⟨⟨by decide, by decide, tm1 (i := 109) rfl rfl⟩, List.forall_mem_cons.mpr ⟨⟨by decide, by decide, tm1 (i := 113) rfl rfl⟩, List.forall_mem_cons.mpr ⟨⟨by decide, by decide, tm1 (i := 116) rfl rfl⟩, List.forall_mem_cons.mpr ⟨⟨by decide, by decide, tm1 (i := 67) rfl rfl⟩, fun _ h => (List.not_mem_nil h).elim⟩⟩⟩⟩⟩⟩⟩
theorem ftX3_ok : ∀ q ∈ ftX3, FieldOK RX3 q.1 q.2.1 q.2.2 := List.forall_mem_cons.mpr ⟨⟨by decide, by decide, tm1 (i := 184) rfl rfl⟩, List.forall_mem_cons.mpr ⟨⟨by decide, by decide, tm1 (i := 185) rfl rfl⟩, fun _ h => (List.not_mem_nil h).elim⟩⟩
theorem ftX4_ok : ∀ q ∈ ftX4, FieldOK RX4 q.1 q.2.1 q.2.2 := List.forall_mem_cons.mpr ⟨⟨by decide, by decide, tm1 (i := 230) rfl rfl⟩, List.forall_mem_cons.mpr ⟨⟨by decide, by decide, tm1 (i := 231) rfl rfl⟩, List.forall_mem_cons.mpr ⟨⟨by decide, by decide, tm1 (i := 232) rfl rfl⟩, List.forall_mem_cons.mpr ⟨⟨by decide, by decide, tm1 (i := 233) rfl rfl⟩, List.forall_mem_cons.mpr ⟨⟨by decide, by decide, tm1 (i := 138) rfl rfl⟩, List.forall_mem_cons.mpr ⟨⟨by decide, by decide, tm1 (i := 234) rfl rfl⟩, List.forall_mem_cons.mpr ⟨⟨by decide, by decide, tm1 (i := 156) rfl rfl⟩, List.forall_mem_cons.mpr ⟨⟨by decide, by decide, tm1 (i := 66) rfl rfl⟩, List.forall_mem_cons.mpr ⟨⟨by decide, by decide, tm1 (i := 136) rfl rfl⟩, List.forall_mem_cons.mpr ⟨⟨by decide, by decide, tm1 (i := 102) rfl rfl⟩, List.forall_mem_cons.mpr ⟨⟨by decide, by decide, tm1 (i := 71) rfl rfl⟩, List.forall_mem_cons.mpr ⟨⟨by decide, by decide, tm1 (i := 119) rfl rfl⟩, List.forall_mem_cons.mpr ⟨⟨by decide, by decide, tm1 (i := 151) rfl rfl⟩, List.forall_mem_cons.mpr ⟨⟨by decide, by decide, tm1 (i := 143) rfl rfl⟩, List.forall_mem_cons.mpr ⟨⟨by decide, by decide, tm1 (i := 146) rfl rfl⟩, List.forall_mem_cons.mpr ⟨⟨by decide, by decide, tm1 (i := 207) rfl rfl⟩, List.forall_mem_cons.mpr ⟨⟨by decide, by decide, tm1 (i := 209) rfl rfl⟩, List.forall_mem_cons.mpr ⟨⟨by decide, by decide, tm1 (i := 107) rfl rfl⟩, List.forall_mem_cons.mpr ⟨⟨by decide, by decide, tm1 (i := 80) rfl rfl⟩, List.forall_mem_cons.mpr ⟨⟨by decide, by decide, tm1 (i := 83) rfl rfl⟩, List.forall_mem_cons.mpr ⟨⟨by decide, by decide, tm1 (i := 74) rfl rfl⟩, List.forall_mem_cons.mpr ⟨⟨by decide, by decide, tm1 (i := 77) rfl rfl⟩, List.forall_mem_cons.mpr ⟨⟨by decide, by decide, tm1 (i := 235) rfl rfl⟩, List.forall_mem_cons.mpr ⟨⟨by decide, by decide, tm1 (i := 149) rfl rfl⟩, fun _ h => (List.not_mem_nil h).elim⟩⟩⟩⟩⟩⟩⟩⟩⟩⟩⟩⟩⟩⟩⟩⟩⟩⟩⟩⟩⟩⟩⟩⟩
theorem ftX5_ok : ∀ q ∈ ftX5, FieldOK RX5 q.1 q.2.1 q.2.2 := List.forall_mem_cons.mpr ⟨⟨by decide, by decide, tm1 (i := 206) rfl rfl⟩, List.forall_mem_cons.mpr ⟨⟨by decide, by decide, tm1 (i := 208) rfl rfl⟩, List.forall_mem_cons.mpr ⟨⟨by decide, by decide, tm1 (i := 210) rfl rfl⟩, List.forall_mem_cons.mpr ⟨⟨by decide, by decide, tm1 (i := 211) rfl rfl⟩, List.forall_mem_cons.mpr ⟨⟨by decide, by decide, tm1 (i := 212) rfl rfl⟩, List.forall_mem_cons.mpr ⟨⟨by decide, by decide, tm1 (i := 213) rfl rfl⟩, List.forall_mem_cons.mpr ⟨⟨by decide, by decide, tm1 (i := 214) rfl rfl⟩, fun _ h => (List.not_mem_nil h).elim⟩⟩⟩⟩⟩⟩⟩
theorem ftX6_ok : ∀ q ∈ ftX6, FieldOK RX6 q.1 q.2.1 q.2.2 := List.forall_mem_cons.mpr ⟨⟨by decide, by decide, tm1 (i := 31) rfl rfl⟩, List.forall_mem_cons.mpr ⟨⟨by decide, by decide, tm1 (i := 32) rfl rfl⟩, List.forall_mem_cons.mpr ⟨⟨by decide, by decide, tm1 (i := 34) rfl rfl⟩, List.forall_mem_cons.mpr ⟨⟨by decide, by decide, tm1 (i := 35) rfl rfl⟩, List.forall_mem_cons.mpr ⟨⟨by decide, by decide, tm1 (i := 139) rfl rfl⟩, List.forall_mem_cons.mpr ⟨⟨by decide, by decide, tm1 (i := 134) rfl rfl⟩, List.forall_mem_cons.mpr ⟨⟨by decide, by decide, tm1 (i := 114) rfl rfl⟩, List.forall_mem_cons.mpr ⟨⟨by decide, by decide, tm1 (i := 117) rfl rfl⟩, List.forall_mem_cons.mpr ⟨⟨by decide, by decide, tm1 (i := 106) rfl rfl⟩, List.forall_mem_cons.mpr ⟨⟨by decide, by decide, tm1 (i := 99) rfl rfl⟩, List.forall_mem_cons.mpr ⟨⟨by decide, by decide, tm1 (i := 111) rfl rfl⟩, fun _ h => (List.not_mem_nil h).elim⟩⟩⟩⟩⟩⟩⟩⟩⟩⟩⟩
theorem ftX7_ok : ∀ q ∈ ftX7, FieldOK RX7 q.1 q.2.1 q.2.2 := List.forall_mem_cons.mpr ⟨⟨by decide, by decide, tm2 (i := 9) rfl rfl⟩, List.forall_mem_cons.mpr ⟨⟨by decide, by decide, tm2 (i := 10) rfl rfl⟩, List.forall_mem_cons.mpr ⟨⟨by decide, by decide, tm2 (i := 11) rfl rfl⟩, List.forall_mem_cons.mpr ⟨⟨by decide, by decide, tm2 (i := 12) rfl rfl⟩, List.forall_mem_cons.mpr ⟨⟨by decide, by decide, tm2 (i := 13) rfl rfl⟩, List.forall_mem_cons.mpr ⟨⟨by decide, by decide, tm2 (i := 14) rfl rfl⟩, List.forall_mem_cons.mpr ⟨⟨by decide, by decide, tm1 (i := 33) rfl rfl⟩, List.forall_mem_cons.mpr ⟨⟨by decide, by decide, tm1 (i := 140) rfl rfl⟩, List.forall_mem_cons.mpr ⟨⟨by decide, by decide, tm1 (i := 135) rfl rfl⟩, List.forall_mem_cons.mpr ⟨⟨by decide, by decide, tm1 (i := 110) rfl rfl⟩, List.forall_mem_cons.mpr ⟨⟨by decide, by decide, tm1 (i := 115) rfl rfl⟩, List.forall_mem_cons.mpr ⟨⟨by decide, by decide, tm1 (i := 118) rfl rfl⟩, List.forall_mem_cons.mpr ⟨⟨by decide, by decide, tm1 (i := 142) rfl rfl⟩, List.forall_mem_cons.mpr ⟨⟨by decide, by decide, tm1 (i := 145) rfl rfl⟩, List.forall_mem_cons.mpr ⟨⟨by decide, by decide, tm1 (i := 148) rfl rfl⟩, List.forall_mem_cons.mpr ⟨⟨by decide, by decide, tm1 (i := 152) rfl rfl⟩, List.forall_mem_cons.mpr ⟨⟨by decide, by decide, tm1 (i := 154) rfl rfl⟩, List.forall_mem_cons.mpr ⟨⟨by decide, by decide, tm1 (i := 108) rfl rfl⟩, List.forall_mem_cons.mpr ⟨⟨by decide, by decide, tm1 (i := 100) rfl rfl⟩, List.forall_mem_cons.mpr ⟨⟨by decide, by decide, tm1 (i := 157) rfl rfl⟩, List.forall_mem_cons.mpr ⟨⟨by decide, by decide, tm1 (i := 104) rfl rfl⟩, List.forall_mem_cons.mpr ⟨⟨by decide, by decide, tm1 (i := 69) rfl rfl⟩, List.forall_mem_cons.mpr ⟨⟨by decide, by decide, tm1 (i := 75) rfl rfl⟩, List.forall_mem_cons.mpr ⟨⟨by decide, by decide, tm1 (i := 78) rfl rfl⟩, List.forall_mem_cons.mpr ⟨⟨by decide, by decide, tm1 (i := 81) rfl rfl⟩, List.forall_mem_cons.mpr ⟨⟨by decide, by decide, tm1 (i := 84) rfl rfl⟩, List.forall_mem_cons.mpr ⟨⟨by decide, by decide, tm1 (i := 72) rfl rfl⟩, List.forall_mem_cons.mpr ⟨⟨by decide, by decide, tm1 (i := 186) rfl rfl⟩, fun _ h => (List.not_mem_nil h).elim⟩⟩⟩⟩⟩⟩⟩⟩⟩⟩⟩⟩⟩⟩⟩⟩⟩⟩⟩⟩⟩⟩⟩⟩⟩⟩⟩⟩
theorem ftX8_ok : ∀ q ∈ ftX8, FieldOK RX8 q.1 q.2.1 q.2.2 := List.forall_mem_cons.mpr ⟨⟨by decide, by decide, tm4 (i := 67) rfl rfl⟩, List.forall_mem_cons.mpr ⟨⟨by decide, by decide, tm4 (i := 68) rfl rfl⟩, List.forall_mem_cons.mpr ⟨⟨by decide, by decide, tm4 (i := 69) rfl rfl⟩, List.forall_mem_cons.mpr ⟨⟨by decide, by decide, tm4 (i := 72) rfl rfl⟩, List.forall_mem_cons.mpr ⟨⟨by decide, by decide, tm4 (i := 73) rfl rfl⟩, List.forall_mem_cons.mpr ⟨⟨by decide, by decide, tm4 (i := 74) rfl rfl⟩, List.forall_mem_cons.mpr ⟨⟨by decide, by decide, tm4 (i := 75) rfl rfl⟩, List.forall_mem_cons.mpr ⟨⟨by decide, by decide, tm4 (i := 76) rfl rfl⟩, List.forall_mem_cons.mpr ⟨⟨by decide, by decide, tm4 (i := 78) rfl rfl⟩, List.forall_mem_cons.mpr ⟨⟨by decide, by decide, tm4 (i := 71) rfl rfl⟩, List.forall_mem_cons.mpr ⟨⟨by decide, by decide, tm4 (i := 70) rfl rfl⟩, List.forall_mem_cons.mpr ⟨⟨by decide, by decide, tm4 (i := 77) rfl rfl⟩, List.forall_mem_cons.mpr ⟨⟨by decide, by decide, tm4 (i := 79) rfl rfl⟩, List.forall_mem_cons.mpr ⟨⟨by decide, by decide, tm4 (i := 80) rfl rfl⟩, fun _ h => (List.not_mem_nil h).elim⟩⟩⟩⟩⟩⟩⟩⟩⟩⟩⟩⟩⟩⟩
theorem ftJ9_ok : ∀ q ∈ ftJ9, FieldOK RJ9 q.1 q.2.1 q.2.2 := fun _ h => (List.not_mem_nil h).elim
theorem wc_X7_clearText : Cond.code yX7_clearText cX7_clearText 2 (some .int) ∈ lwA := tm2 (i := 32) rfl rfl
theorem wm_X7_clearText {w : Cond} (h : w ∈ ([.instanceMethod yX7_clearText, .selects (fcl 7).1 yX7_clearText yX7_clearText, .initialized (fcl 7).1, .code yX7_clearText cX7_clearText 2 (some .int)] : List Cond)) : w ∈ lwA := by
  rcases List.mem_cons.mp h with h | h
  · rw [h]; exact tm2 (i := 30) rfl rfl
  rcases List.mem_cons.mp h with h | h
  · rw [h]; exact tm2 (i := 31) rfl rfl
  rcases List.mem_cons.mp h with h | h
  · rw [h]; exact tm1 (i := 1) rfl rfl
  rw [List.mem_singleton.mp h]; exact wc_X7_clearText
theorem wc_X7_parse : Cond.code yX7_parse cX7_parse 3 (some .int) ∈ lwA := tm2 (i := 36) rfl rfl
theorem wm_X7_parse {w : Cond} (h : w ∈ ([.instanceMethod yX7_parse, .selects (fcl 7).1 yX7_parse yX7_parse, .initialized (fcl 7).1, .code yX7_parse cX7_parse 3 (some .int)] : List Cond)) : w ∈ lwA := by
  rcases List.mem_cons.mp h with h | h
  · rw [h]; exact tm2 (i := 34) rfl rfl
  rcases List.mem_cons.mp h with h | h
  · rw [h]; exact tm2 (i := 35) rfl rfl
  rcases List.mem_cons.mp h with h | h
  · rw [h]; exact tm1 (i := 1) rfl rfl
  rw [List.mem_singleton.mp h]; exact wc_X7_parse
theorem wc_X6_readInto : Cond.code yX6_readInto cX6_readInto 3 (some .int) ∈ lwA := tm2 (i := 40) rfl rfl
theorem wm_X6_readInto {w : Cond} (h : w ∈ ([.instanceMethod yX6_readInto, .selects (fcl 6).1 yX6_readInto yX6_readInto, .initialized (fcl 6).1, .code yX6_readInto cX6_readInto 3 (some .int)] : List Cond)) : w ∈ lwA := by
  rcases List.mem_cons.mp h with h | h
  · rw [h]; exact tm2 (i := 38) rfl rfl
  rcases List.mem_cons.mp h with h | h
  · rw [h]; exact tm2 (i := 39) rfl rfl
  rcases List.mem_cons.mp h with h | h
  · rw [h]; exact tm1 (i := 2) rfl rfl
  rw [List.mem_singleton.mp h]; exact wc_X6_readInto
theorem wc_X6_readWord : Cond.code yX6_readWord cX6_readWord 3 none ∈ lwA := tm2 (i := 44) rfl rfl
theorem wm_X6_readWord {w : Cond} (h : w ∈ ([.instanceMethod yX6_readWord, .selects (fcl 6).1 yX6_readWord yX6_readWord, .initialized (fcl 6).1, .code yX6_readWord cX6_readWord 3 none] : List Cond)) : w ∈ lwA := by
  rcases List.mem_cons.mp h with h | h
  · rw [h]; exact tm2 (i := 43) rfl rfl
  rcases List.mem_cons.mp h with h | h
  · rw [h]; exact tmp (i := 0) rfl rfl
  rcases List.mem_cons.mp h with h | h
  · rw [h]; exact tm1 (i := 2) rfl rfl
  rw [List.mem_singleton.mp h]; exact wc_X6_readWord
theorem wc_X6_readLetters : Cond.code yX6_readLetters cX6_readLetters 4 none ∈ lwA := tm2 (i := 48) rfl rfl
theorem wm_X6_readLetters {w : Cond} (h : w ∈ ([.instanceMethod yX6_readLetters, .selects (fcl 6).1 yX6_readLetters yX6_readLetters, .initialized (fcl 6).1, .code yX6_readLetters cX6_readLetters 4 none] : List Cond)) : w ∈ lwA := by
  rcases List.mem_cons.mp h with h | h
  · rw [h]; exact tm2 (i := 47) rfl rfl
  rcases List.mem_cons.mp h with h | h
  · rw [h]; exact tmp (i := 1) rfl rfl
  rcases List.mem_cons.mp h with h | h
  · rw [h]; exact tm1 (i := 2) rfl rfl
  rw [List.mem_singleton.mp h]; exact wc_X6_readLetters
theorem wc_X6_isBetween : Cond.code yX6_isBetween cX6_isBetween 3 (some .boolean) ∈ lwA := tm2 (i := 52) rfl rfl
theorem wm_X6_isBetween {w : Cond} (h : w ∈ ([.instanceMethod yX6_isBetween, .selects (fcl 6).1 yX6_isBetween yX6_isBetween, .initialized (fcl 6).1, .code yX6_isBetween cX6_isBetween 3 (some .boolean)] : List Cond)) : w ∈ lwA := by
  rcases List.mem_cons.mp h with h | h
  · rw [h]; exact tm2 (i := 51) rfl rfl
  rcases List.mem_cons.mp h with h | h
  · rw [h]; exact tmp (i := 2) rfl rfl
  rcases List.mem_cons.mp h with h | h
  · rw [h]; exact tm1 (i := 2) rfl rfl
  rw [List.mem_singleton.mp h]; exact wc_X6_isBetween
theorem wc_X1_numberOf : Cond.code yX1_numberOf cX1_numberOf 3 (some .int) ∈ lwA := tm2 (i := 56) rfl rfl
theorem wm_X1_numberOf {w : Cond} (h : w ∈ ([.instanceMethod yX1_numberOf, .selects (fcl 1).1 yX1_numberOf yX1_numberOf, .initialized (fcl 1).1, .code yX1_numberOf cX1_numberOf 3 (some .int)] : List Cond)) : w ∈ lwA := by
  rcases List.mem_cons.mp h with h | h
  · rw [h]; exact tm2 (i := 54) rfl rfl
  rcases List.mem_cons.mp h with h | h
  · rw [h]; exact tm2 (i := 55) rfl rfl
  rcases List.mem_cons.mp h with h | h
  · rw [h]; exact tm1 (i := 3) rfl rfl
  rw [List.mem_singleton.mp h]; exact wc_X1_numberOf
theorem wc_X2_hasSameLetters : Cond.code yX2_hasSameLetters cX2_hasSameLetters 3 (some .boolean) ∈ lwA := tm2 (i := 60) rfl rfl
theorem wm_X2_hasSameLetters {w : Cond} (h : w ∈ ([.instanceMethod yX2_hasSameLetters, .selects (fcl 2).1 yX2_hasSameLetters yX2_hasSameLetters, .initialized (fcl 2).1, .code yX2_hasSameLetters cX2_hasSameLetters 3 (some .boolean)] : List Cond)) : w ∈ lwA := by
  rcases List.mem_cons.mp h with h | h
  · rw [h]; exact tm2 (i := 58) rfl rfl
  rcases List.mem_cons.mp h with h | h
  · rw [h]; exact tm2 (i := 59) rfl rfl
  rcases List.mem_cons.mp h with h | h
  · rw [h]; exact tm1 (i := 4) rfl rfl
  rw [List.mem_singleton.mp h]; exact wc_X2_hasSameLetters
theorem wc_X6_readWeight : Cond.code yX6_readWeight cX6_readWeight 3 none ∈ lwA := tm2 (i := 64) rfl rfl
theorem wm_X6_readWeight {w : Cond} (h : w ∈ ([.instanceMethod yX6_readWeight, .selects (fcl 6).1 yX6_readWeight yX6_readWeight, .initialized (fcl 6).1, .code yX6_readWeight cX6_readWeight 3 none] : List Cond)) : w ∈ lwA := by
  rcases List.mem_cons.mp h with h | h
  · rw [h]; exact tm2 (i := 63) rfl rfl
  rcases List.mem_cons.mp h with h | h
  · rw [h]; exact tmp (i := 3) rfl rfl
  rcases List.mem_cons.mp h with h | h
  · rw [h]; exact tm1 (i := 2) rfl rfl
  rw [List.mem_singleton.mp h]; exact wc_X6_readWeight
theorem wc_X6_readSign : Cond.code yX6_readSign cX6_readSign 2 none ∈ lwA := tm2 (i := 68) rfl rfl
theorem wm_X6_readSign {w : Cond} (h : w ∈ ([.instanceMethod yX6_readSign, .selects (fcl 6).1 yX6_readSign yX6_readSign, .initialized (fcl 6).1, .code yX6_readSign cX6_readSign 2 none] : List Cond)) : w ∈ lwA := by
  rcases List.mem_cons.mp h with h | h
  · rw [h]; exact tm2 (i := 67) rfl rfl
  rcases List.mem_cons.mp h with h | h
  · rw [h]; exact tmp (i := 4) rfl rfl
  rcases List.mem_cons.mp h with h | h
  · rw [h]; exact tm1 (i := 2) rfl rfl
  rw [List.mem_singleton.mp h]; exact wc_X6_readSign
theorem wc_X6_readDigit : Cond.code yX6_readDigit cX6_readDigit 3 (some .int) ∈ lwA := tm2 (i := 72) rfl rfl
theorem wm_X6_readDigit {w : Cond} (h : w ∈ ([.instanceMethod yX6_readDigit, .selects (fcl 6).1 yX6_readDigit yX6_readDigit, .initialized (fcl 6).1, .code yX6_readDigit cX6_readDigit 3 (some .int)] : List Cond)) : w ∈ lwA := by
  rcases List.mem_cons.mp h with h | h
  · rw [h]; exact tm2 (i := 71) rfl rfl
  rcases List.mem_cons.mp h with h | h
  · rw [h]; exact tmp (i := 5) rfl rfl
  rcases List.mem_cons.mp h with h | h
  · rw [h]; exact tm1 (i := 2) rfl rfl
  rw [List.mem_singleton.mp h]; exact wc_X6_readDigit
theorem wc_X1_copySettings : Cond.code yX1_copySettings cX1_copySettings 2 none ∈ lwA := tm2 (i := 76) rfl rfl
theorem wm_X1_copySettings {w : Cond} (h : w ∈ ([.instanceMethod yX1_copySettings, .selects (fcl 1).1 yX1_copySettings yX1_copySettings, .initialized (fcl 1).1, .code yX1_copySettings cX1_copySettings 2 none] : List Cond)) : w ∈ lwA := by
  rcases List.mem_cons.mp h with h | h
  · rw [h]; exact tm2 (i := 74) rfl rfl
  rcases List.mem_cons.mp h with h | h
  · rw [h]; exact tm2 (i := 75) rfl rfl
  rcases List.mem_cons.mp h with h | h
  · rw [h]; exact tm1 (i := 3) rfl rfl
  rw [List.mem_singleton.mp h]; exact wc_X1_copySettings
theorem wc_X7_giveFormerPlace : Cond.code yX7_giveFormerPlace cX7_giveFormerPlace 3 none ∈ lwA := tm2 (i := 80) rfl rfl
theorem wm_X7_giveFormerPlace {w : Cond} (h : w ∈ ([.instanceMethod yX7_giveFormerPlace, .selects (fcl 7).1 yX7_giveFormerPlace yX7_giveFormerPlace, .initialized (fcl 7).1, .code yX7_giveFormerPlace cX7_giveFormerPlace 3 none] : List Cond)) : w ∈ lwA := by
  rcases List.mem_cons.mp h with h | h
  · rw [h]; exact tm2 (i := 79) rfl rfl
  rcases List.mem_cons.mp h with h | h
  · rw [h]; exact tmp (i := 6) rfl rfl
  rcases List.mem_cons.mp h with h | h
  · rw [h]; exact tm1 (i := 1) rfl rfl
  rw [List.mem_singleton.mp h]; exact wc_X7_giveFormerPlace
theorem wc_X0_copyFrom : Cond.code yX0_copyFrom cX0_copyFrom 2 none ∈ lwA := tm2 (i := 85) rfl rfl
theorem wm_X0_copyFrom {w : Cond} (h : w ∈ ([.instanceMethod yX0_copyFrom, .selects (fcl 0).1 yX0_copyFrom yX0_copyFrom, .initialized (fcl 0).1, .code yX0_copyFrom cX0_copyFrom 2 none] : List Cond)) : w ∈ lwA := by
  rcases List.mem_cons.mp h with h | h
  · rw [h]; exact tm2 (i := 83) rfl rfl
  rcases List.mem_cons.mp h with h | h
  · rw [h]; exact tm2 (i := 84) rfl rfl
  rcases List.mem_cons.mp h with h | h
  · rw [h]; exact tm1 (i := 5) rfl rfl
  rw [List.mem_singleton.mp h]; exact wc_X0_copyFrom
theorem wc_X3_save : Cond.code yX3_save cX3_save 2 none ∈ lwA := tm2 (i := 89) rfl rfl
theorem wm_X3_save {w : Cond} (h : w ∈ ([.instanceMethod yX3_save, .selects (fcl 3).1 yX3_save yX3_save, .initialized (fcl 3).1, .code yX3_save cX3_save 2 none] : List Cond)) : w ∈ lwA := by
  rcases List.mem_cons.mp h with h | h
  · rw [h]; exact tm2 (i := 87) rfl rfl
  rcases List.mem_cons.mp h with h | h
  · rw [h]; exact tm2 (i := 88) rfl rfl
  rcases List.mem_cons.mp h with h | h
  · rw [h]; exact tm1 (i := 6) rfl rfl
  rw [List.mem_singleton.mp h]; exact wc_X3_save
theorem wc_X3_dropOldest : Cond.code yX3_dropOldest cX3_dropOldest 3 none ∈ lwA := tm2 (i := 93) rfl rfl
theorem wm_X3_dropOldest {w : Cond} (h : w ∈ ([.instanceMethod yX3_dropOldest, .selects (fcl 3).1 yX3_dropOldest yX3_dropOldest, .initialized (fcl 3).1, .code yX3_dropOldest cX3_dropOldest 3 none] : List Cond)) : w ∈ lwA := by
  rcases List.mem_cons.mp h with h | h
  · rw [h]; exact tm2 (i := 92) rfl rfl
  rcases List.mem_cons.mp h with h | h
  · rw [h]; exact tmp (i := 7) rfl rfl
  rcases List.mem_cons.mp h with h | h
  · rw [h]; exact tm1 (i := 6) rfl rfl
  rw [List.mem_singleton.mp h]; exact wc_X3_dropOldest
theorem wc_X1_copyFrom : Cond.code yX1_copyFrom cX1_copyFrom 3 none ∈ lwA := tm2 (i := 97) rfl rfl
theorem wm_X1_copyFrom {w : Cond} (h : w ∈ ([.instanceMethod yX1_copyFrom, .selects (fcl 1).1 yX1_copyFrom yX1_copyFrom, .initialized (fcl 1).1, .code yX1_copyFrom cX1_copyFrom 3 none] : List Cond)) : w ∈ lwA := by
  rcases List.mem_cons.mp h with h | h
  · rw [h]; exact tm2 (i := 95) rfl rfl
  rcases List.mem_cons.mp h with h | h
  · rw [h]; exact tm2 (i := 96) rfl rfl
  rcases List.mem_cons.mp h with h | h
  · rw [h]; exact tm1 (i := 3) rfl rfl
  rw [List.mem_singleton.mp h]; exact wc_X1_copyFrom
theorem wc_X2_copyFrom : Cond.code yX2_copyFrom cX2_copyFrom 3 none ∈ lwA := tm2 (i := 102) rfl rfl
theorem wm_X2_copyFrom {w : Cond} (h : w ∈ ([.instanceMethod yX2_copyFrom, .selects (fcl 2).1 yX2_copyFrom yX2_copyFrom, .initialized (fcl 2).1, .code yX2_copyFrom cX2_copyFrom 3 none] : List Cond)) : w ∈ lwA := by
  rcases List.mem_cons.mp h with h | h
  · rw [h]; exact tm2 (i := 100) rfl rfl
  rcases List.mem_cons.mp h with h | h
  · rw [h]; exact tm2 (i := 101) rfl rfl
  rcases List.mem_cons.mp h with h | h
  · rw [h]; exact tm1 (i := 4) rfl rfl
  rw [List.mem_singleton.mp h]; exact wc_X2_copyFrom
theorem wc_X7_lay : Cond.code yX7_lay cX7_lay 2 (some .int) ∈ lwA := tm2 (i := 108) rfl rfl
theorem wm_X7_lay {w : Cond} (h : w ∈ ([.instanceMethod yX7_lay, .selects (fcl 7).1 yX7_lay yX7_lay, .initialized (fcl 7).1, .code yX7_lay cX7_lay 2 (some .int)] : List Cond)) : w ∈ lwA := by
  rcases List.mem_cons.mp h with h | h
  · rw [h]; exact tm2 (i := 106) rfl rfl
  rcases List.mem_cons.mp h with h | h
  · rw [h]; exact tm2 (i := 107) rfl rfl
  rcases List.mem_cons.mp h with h | h
  · rw [h]; exact tm1 (i := 1) rfl rfl
  rw [List.mem_singleton.mp h]; exact wc_X7_lay
theorem wc_X4_layAll : Cond.code yX4_layAll cX4_layAll 4 (some .int) ∈ lwA := tm2 (i := 112) rfl rfl
theorem wm_X4_layAll {w : Cond} (h : w ∈ ([.instanceMethod yX4_layAll, .selects (fcl 4).1 yX4_layAll yX4_layAll, .initialized (fcl 4).1, .code yX4_layAll cX4_layAll 4 (some .int)] : List Cond)) : w ∈ lwA := by
  rcases List.mem_cons.mp h with h | h
  · rw [h]; exact tm2 (i := 110) rfl rfl
  rcases List.mem_cons.mp h with h | h
  · rw [h]; exact tm2 (i := 111) rfl rfl
  rcases List.mem_cons.mp h with h | h
  · rw [h]; exact tm1 (i := 7) rfl rfl
  rw [List.mem_singleton.mp h]; exact wc_X4_layAll
theorem wc_X4_begin : Cond.code yX4_begin cX4_begin 3 none ∈ lwA := tm2 (i := 116) rfl rfl
theorem wm_X4_begin {w : Cond} (h : w ∈ ([.instanceMethod yX4_begin, .selects (fcl 4).1 yX4_begin yX4_begin, .initialized (fcl 4).1, .code yX4_begin cX4_begin 3 none] : List Cond)) : w ∈ lwA := by
  rcases List.mem_cons.mp h with h | h
  · rw [h]; exact tm2 (i := 115) rfl rfl
  rcases List.mem_cons.mp h with h | h
  · rw [h]; exact tmp (i := 8) rfl rfl
  rcases List.mem_cons.mp h with h | h
  · rw [h]; exact tm1 (i := 7) rfl rfl
  rw [List.mem_singleton.mp h]; exact wc_X4_begin
theorem wc_X1_rankOf : Cond.code yX1_rankOf cX1_rankOf 5 (some .int) ∈ lwA := tm2 (i := 120) rfl rfl
theorem wm_X1_rankOf {w : Cond} (h : w ∈ ([.instanceMethod yX1_rankOf, .selects (fcl 1).1 yX1_rankOf yX1_rankOf, .initialized (fcl 1).1, .code yX1_rankOf cX1_rankOf 5 (some .int)] : List Cond)) : w ∈ lwA := by
  rcases List.mem_cons.mp h with h | h
  · rw [h]; exact tm2 (i := 118) rfl rfl
  rcases List.mem_cons.mp h with h | h
  · rw [h]; exact tm2 (i := 119) rfl rfl
  rcases List.mem_cons.mp h with h | h
  · rw [h]; exact tm1 (i := 3) rfl rfl
  rw [List.mem_singleton.mp h]; exact wc_X1_rankOf
theorem wc_X4_layWord : Cond.code yX4_layWord cX4_layWord 8 (some .boolean) ∈ lwA := tm2 (i := 124) rfl rfl
theorem wm_X4_layWord {w : Cond} (h : w ∈ ([.instanceMethod yX4_layWord, .selects (fcl 4).1 yX4_layWord yX4_layWord, .initialized (fcl 4).1, .code yX4_layWord cX4_layWord 8 (some .boolean)] : List Cond)) : w ∈ lwA := by
  rcases List.mem_cons.mp h with h | h
  · rw [h]; exact tm2 (i := 123) rfl rfl
  rcases List.mem_cons.mp h with h | h
  · rw [h]; exact tmp (i := 9) rfl rfl
  rcases List.mem_cons.mp h with h | h
  · rw [h]; exact tm1 (i := 7) rfl rfl
  rw [List.mem_singleton.mp h]; exact wc_X4_layWord
theorem wc_X1_sizeOf : Cond.code yX1_sizeOf cX1_sizeOf 5 (some .int) ∈ lwA := tm2 (i := 128) rfl rfl
theorem wm_X1_sizeOf {w : Cond} (h : w ∈ ([.instanceMethod yX1_sizeOf, .selects (fcl 1).1 yX1_sizeOf yX1_sizeOf, .initialized (fcl 1).1, .code yX1_sizeOf cX1_sizeOf 5 (some .int)] : List Cond)) : w ∈ lwA := by
  rcases List.mem_cons.mp h with h | h
  · rw [h]; exact tm2 (i := 126) rfl rfl
  rcases List.mem_cons.mp h with h | h
  · rw [h]; exact tm2 (i := 127) rfl rfl
  rcases List.mem_cons.mp h with h | h
  · rw [h]; exact tm1 (i := 3) rfl rfl
  rw [List.mem_singleton.mp h]; exact wc_X1_sizeOf
theorem wc_J9_min_7cf53 : Cond.code yJ9_min_7cf53 cJ9_min_7cf53 2 (some .int) ∈ lwA := tm2 (i := 131) rfl rfl
theorem wm_J9_min_7cf53 {w : Cond} (h : w ∈ ([.static yJ9_min_7cf53, .initialized yJ9_min_7cf53.cls, .code yJ9_min_7cf53 cJ9_min_7cf53 2 (some .int)] : List Cond)) : w ∈ lwA := by
  rcases List.mem_cons.mp h with h | h
  · rw [h]; exact tm2 (i := 130) rfl rfl
  rcases List.mem_cons.mp h with h | h
  · rw [h]; exact tm1 (i := 16) rfl rfl
  rw [List.mem_singleton.mp h]; exact wc_J9_min_7cf53
theorem wc_J9_max_7cf53 : Cond.code yJ9_max_7cf53 cJ9_max_7cf53 2 (some .int) ∈ lwA := tm2 (i := 134) rfl rfl
theorem wm_J9_max_7cf53 {w : Cond} (h : w ∈ ([.static yJ9_max_7cf53, .initialized yJ9_max_7cf53.cls, .code yJ9_max_7cf53 cJ9_max_7cf53 2 (some .int)] : List Cond)) : w ∈ lwA := by
  rcases List.mem_cons.mp h with h | h
  · rw [h]; exact tm2 (i := 133) rfl rfl
  rcases List.mem_cons.mp h with h | h
  · rw [h]; exact tm1 (i := 16) rfl rfl
  rw [List.mem_singleton.mp h]; exact wc_J9_max_7cf53
theorem wc_X4_canStay : Cond.code yX4_canStay cX4_canStay 5 (some .boolean) ∈ lwA := tm2 (i := 138) rfl rfl
theorem wm_X4_canStay {w : Cond} (h : w ∈ ([.instanceMethod yX4_canStay, .selects (fcl 4).1 yX4_canStay yX4_canStay, .initialized (fcl 4).1, .code yX4_canStay cX4_canStay 5 (some .boolean)] : List Cond)) : w ∈ lwA := by
  rcases List.mem_cons.mp h with h | h
  · rw [h]; exact tm2 (i := 137) rfl rfl
  rcases List.mem_cons.mp h with h | h
  · rw [h]; exact tmp (i := 10) rfl rfl
  rcases List.mem_cons.mp h with h | h
  · rw [h]; exact tm1 (i := 7) rfl rfl
  rw [List.mem_singleton.mp h]; exact wc_X4_canStay
theorem wc_X2_allows : Cond.code yX2_allows cX2_allows 2 (some .boolean) ∈ lwA := tm2 (i := 142) rfl rfl
theorem wm_X2_allows {w : Cond} (h : w ∈ ([.instanceMethod yX2_allows, .selects (fcl 2).1 yX2_allows yX2_allows, .initialized (fcl 2).1, .code yX2_allows cX2_allows 2 (some .boolean)] : List Cond)) : w ∈ lwA := by
  rcases List.mem_cons.mp h with h | h
  · rw [h]; exact tm2 (i := 140) rfl rfl
  rcases List.mem_cons.mp h with h | h
  · rw [h]; exact tm2 (i := 141) rfl rfl
  rcases List.mem_cons.mp h with h | h
  · rw [h]; exact tm1 (i := 4) rfl rfl
  rw [List.mem_singleton.mp h]; exact wc_X2_allows
theorem wc_X4_measure : Cond.code yX4_measure cX4_measure 4 none ∈ lwA := tm2 (i := 146) rfl rfl
theorem wm_X4_measure {w : Cond} (h : w ∈ ([.instanceMethod yX4_measure, .selects (fcl 4).1 yX4_measure yX4_measure, .initialized (fcl 4).1, .code yX4_measure cX4_measure 4 none] : List Cond)) : w ∈ lwA := by
  rcases List.mem_cons.mp h with h | h
  · rw [h]; exact tm2 (i := 145) rfl rfl
  rcases List.mem_cons.mp h with h | h
  · rw [h]; exact tmp (i := 11) rfl rfl
  rcases List.mem_cons.mp h with h | h
  · rw [h]; exact tm1 (i := 7) rfl rfl
  rw [List.mem_singleton.mp h]; exact wc_X4_measure
theorem wc_X0_pointColumn : Cond.code yX0_pointColumn cX0_pointColumn 1 (some .int) ∈ lwA := tm2 (i := 150) rfl rfl
theorem wm_X0_pointColumn {w : Cond} (h : w ∈ ([.instanceMethod yX0_pointColumn, .selects (fcl 0).1 yX0_pointColumn yX0_pointColumn, .initialized (fcl 0).1, .code yX0_pointColumn cX0_pointColumn 1 (some .int)] : List Cond)) : w ∈ lwA := by
  rcases List.mem_cons.mp h with h | h
  · rw [h]; exact tm2 (i := 148) rfl rfl
  rcases List.mem_cons.mp h with h | h
  · rw [h]; exact tm2 (i := 149) rfl rfl
  rcases List.mem_cons.mp h with h | h
  · rw [h]; exact tm1 (i := 5) rfl rfl
  rw [List.mem_singleton.mp h]; exact wc_X0_pointColumn
theorem wc_X0_pointRow : Cond.code yX0_pointRow cX0_pointRow 1 (some .int) ∈ lwA := tm2 (i := 154) rfl rfl
theorem wm_X0_pointRow {w : Cond} (h : w ∈ ([.instanceMethod yX0_pointRow, .selects (fcl 0).1 yX0_pointRow yX0_pointRow, .initialized (fcl 0).1, .code yX0_pointRow cX0_pointRow 1 (some .int)] : List Cond)) : w ∈ lwA := by
  rcases List.mem_cons.mp h with h | h
  · rw [h]; exact tm2 (i := 152) rfl rfl
  rcases List.mem_cons.mp h with h | h
  · rw [h]; exact tm2 (i := 153) rfl rfl
  rcases List.mem_cons.mp h with h | h
  · rw [h]; exact tm1 (i := 5) rfl rfl
  rw [List.mem_singleton.mp h]; exact wc_X0_pointRow
theorem wc_X0_standAround : Cond.code yX0_standAround cX0_standAround 3 none ∈ lwA := tm2 (i := 158) rfl rfl
theorem wm_X0_standAround {w : Cond} (h : w ∈ ([.instanceMethod yX0_standAround, .selects (fcl 0).1 yX0_standAround yX0_standAround, .initialized (fcl 0).1, .code yX0_standAround cX0_standAround 3 none] : List Cond)) : w ∈ lwA := by
  rcases List.mem_cons.mp h with h | h
  · rw [h]; exact tm2 (i := 156) rfl rfl
  rcases List.mem_cons.mp h with h | h
  · rw [h]; exact tm2 (i := 157) rfl rfl
  rcases List.mem_cons.mp h with h | h
  · rw [h]; exact tm1 (i := 5) rfl rfl
  rw [List.mem_singleton.mp h]; exact wc_X0_standAround
theorem wc_X4_isPossible : Cond.code yX4_isPossible cX4_isPossible 4 (some .boolean) ∈ lwA := tm2 (i := 162) rfl rfl
theorem wm_X4_isPossible {w : Cond} (h : w ∈ ([.instanceMethod yX4_isPossible, .selects (fcl 4).1 yX4_isPossible yX4_isPossible, .initialized (fcl 4).1, .code yX4_isPossible cX4_isPossible 4 (some .boolean)] : List Cond)) : w ∈ lwA := by
  rcases List.mem_cons.mp h with h | h
  · rw [h]; exact tm2 (i := 161) rfl rfl
  rcases List.mem_cons.mp h with h | h
  · rw [h]; exact tmp (i := 12) rfl rfl
  rcases List.mem_cons.mp h with h | h
  · rw [h]; exact tm1 (i := 7) rfl rfl
  rw [List.mem_singleton.mp h]; exact wc_X4_isPossible
theorem wc_X0_right : Cond.code yX0_right cX0_right 1 (some .int) ∈ lwA := tm2 (i := 166) rfl rfl
theorem wm_X0_right {w : Cond} (h : w ∈ ([.instanceMethod yX0_right, .selects (fcl 0).1 yX0_right yX0_right, .initialized (fcl 0).1, .code yX0_right cX0_right 1 (some .int)] : List Cond)) : w ∈ lwA := by
  rcases List.mem_cons.mp h with h | h
  · rw [h]; exact tm2 (i := 164) rfl rfl
  rcases List.mem_cons.mp h with h | h
  · rw [h]; exact tm2 (i := 165) rfl rfl
  rcases List.mem_cons.mp h with h | h
  · rw [h]; exact tm1 (i := 5) rfl rfl
  rw [List.mem_singleton.mp h]; exact wc_X0_right
theorem wc_X0_bottom : Cond.code yX0_bottom cX0_bottom 1 (some .int) ∈ lwA := tm2 (i := 170) rfl rfl
theorem wm_X0_bottom {w : Cond} (h : w ∈ ([.instanceMethod yX0_bottom, .selects (fcl 0).1 yX0_bottom yX0_bottom, .initialized (fcl 0).1, .code yX0_bottom cX0_bottom 1 (some .int)] : List Cond)) : w ∈ lwA := by
  rcases List.mem_cons.mp h with h | h
  · rw [h]; exact tm2 (i := 168) rfl rfl
  rcases List.mem_cons.mp h with h | h
  · rw [h]; exact tm2 (i := 169) rfl rfl
  rcases List.mem_cons.mp h with h | h
  · rw [h]; exact tm1 (i := 5) rfl rfl
  rw [List.mem_singleton.mp h]; exact wc_X0_bottom
theorem wc_X0_isApart : Cond.code yX0_isApart cX0_isApart 3 (some .boolean) ∈ lwA := tm2 (i := 174) rfl rfl
theorem wm_X0_isApart {w : Cond} (h : w ∈ ([.instanceMethod yX0_isApart, .selects (fcl 0).1 yX0_isApart yX0_isApart, .initialized (fcl 0).1, .code yX0_isApart cX0_isApart 3 (some .boolean)] : List Cond)) : w ∈ lwA := by
  rcases List.mem_cons.mp h with h | h
  · rw [h]; exact tm2 (i := 172) rfl rfl
  rcases List.mem_cons.mp h with h | h
  · rw [h]; exact tm2 (i := 173) rfl rfl
  rcases List.mem_cons.mp h with h | h
  · rw [h]; exact tm1 (i := 5) rfl rfl
  rw [List.mem_singleton.mp h]; exact wc_X0_isApart
theorem wc_X4_findOnSpiral : Cond.code yX4_findOnSpiral cX4_findOnSpiral 5 (some .boolean) ∈ lwA := tm2 (i := 178) rfl rfl
theorem wm_X4_findOnSpiral {w : Cond} (h : w ∈ ([.instanceMethod yX4_findOnSpiral, .selects (fcl 4).1 yX4_findOnSpiral yX4_findOnSpiral, .initialized (fcl 4).1, .code yX4_findOnSpiral cX4_findOnSpiral 5 (some .boolean)] : List Cond)) : w ∈ lwA := by
  rcases List.mem_cons.mp h with h | h
  · rw [h]; exact tm2 (i := 177) rfl rfl
  rcases List.mem_cons.mp h with h | h
  · rw [h]; exact tmp (i := 13) rfl rfl
  rcases List.mem_cons.mp h with h | h
  · rw [h]; exact tm1 (i := 7) rfl rfl
  rw [List.mem_singleton.mp h]; exact wc_X4_findOnSpiral
theorem wc_X4_beginSpiral : Cond.code yX4_beginSpiral cX4_beginSpiral 5 none ∈ lwA := tm2 (i := 182) rfl rfl
theorem wm_X4_beginSpiral {w : Cond} (h : w ∈ ([.instanceMethod yX4_beginSpiral, .selects (fcl 4).1 yX4_beginSpiral yX4_beginSpiral, .initialized (fcl 4).1, .code yX4_beginSpiral cX4_beginSpiral 5 none] : List Cond)) : w ∈ lwA := by
  rcases List.mem_cons.mp h with h | h
  · rw [h]; exact tm2 (i := 181) rfl rfl
  rcases List.mem_cons.mp h with h | h
  · rw [h]; exact tmp (i := 14) rfl rfl
  rcases List.mem_cons.mp h with h | h
  · rw [h]; exact tm1 (i := 7) rfl rfl
  rw [List.mem_singleton.mp h]; exact wc_X4_beginSpiral
theorem wc_X5_begin : Cond.code yX5_begin cX5_begin 4 none ∈ lwA := tm2 (i := 186) rfl rfl
theorem wm_X5_begin {w : Cond} (h : w ∈ ([.instanceMethod yX5_begin, .selects (fcl 5).1 yX5_begin yX5_begin, .initialized (fcl 5).1, .code yX5_begin cX5_begin 4 none] : List Cond)) : w ∈ lwA := by
  rcases List.mem_cons.mp h with h | h
  · rw [h]; exact tm2 (i := 184) rfl rfl
  rcases List.mem_cons.mp h with h | h
  · rw [h]; exact tm2 (i := 185) rfl rfl
  rcases List.mem_cons.mp h with h | h
  · rw [h]; exact tm1 (i := 8) rfl rfl
  rw [List.mem_singleton.mp h]; exact wc_X5_begin
theorem wc_X4_standsAtPoint : Cond.code yX4_standsAtPoint cX4_standsAtPoint 5 (some .boolean) ∈ lwA := tm2 (i := 190) rfl rfl
theorem wm_X4_standsAtPoint {w : Cond} (h : w ∈ ([.instanceMethod yX4_standsAtPoint, .selects (fcl 4).1 yX4_standsAtPoint yX4_standsAtPoint, .initialized (fcl 4).1, .code yX4_standsAtPoint cX4_standsAtPoint 5 (some .boolean)] : List Cond)) : w ∈ lwA := by
  rcases List.mem_cons.mp h with h | h
  · rw [h]; exact tm2 (i := 189) rfl rfl
  rcases List.mem_cons.mp h with h | h
  · rw [h]; exact tmp (i := 15) rfl rfl
  rcases List.mem_cons.mp h with h | h
  · rw [h]; exact tm1 (i := 7) rfl rfl
  rw [List.mem_singleton.mp h]; exact wc_X4_standsAtPoint
theorem wc_X5_goOn : Cond.code yX5_goOn cX5_goOn 1 none ∈ lwA := tm2 (i := 194) rfl rfl
theorem wm_X5_goOn {w : Cond} (h : w ∈ ([.instanceMethod yX5_goOn, .selects (fcl 5).1 yX5_goOn yX5_goOn, .initialized (fcl 5).1, .code yX5_goOn cX5_goOn 1 none] : List Cond)) : w ∈ lwA := by
  rcases List.mem_cons.mp h with h | h
  · rw [h]; exact tm2 (i := 192) rfl rfl
  rcases List.mem_cons.mp h with h | h
  · rw [h]; exact tm2 (i := 193) rfl rfl
  rcases List.mem_cons.mp h with h | h
  · rw [h]; exact tm1 (i := 8) rfl rfl
  rw [List.mem_singleton.mp h]; exact wc_X5_goOn
theorem wc_X5_turn : Cond.code yX5_turn cX5_turn 2 none ∈ lwA := tm2 (i := 198) rfl rfl
theorem wm_X5_turn {w : Cond} (h : w ∈ ([.instanceMethod yX5_turn, .selects (fcl 5).1 yX5_turn yX5_turn, .initialized (fcl 5).1, .code yX5_turn cX5_turn 2 none] : List Cond)) : w ∈ lwA := by
  rcases List.mem_cons.mp h with h | h
  · rw [h]; exact tm2 (i := 197) rfl rfl
  rcases List.mem_cons.mp h with h | h
  · rw [h]; exact tmp (i := 16) rfl rfl
  rcases List.mem_cons.mp h with h | h
  · rw [h]; exact tm1 (i := 8) rfl rfl
  rw [List.mem_singleton.mp h]; exact wc_X5_turn
theorem wc_X0_hasSameCells : Cond.code yX0_hasSameCells cX0_hasSameCells 2 (some .boolean) ∈ lwA := tm2 (i := 202) rfl rfl
theorem wm_X0_hasSameCells {w : Cond} (h : w ∈ ([.instanceMethod yX0_hasSameCells, .selects (fcl 0).1 yX0_hasSameCells yX0_hasSameCells, .initialized (fcl 0).1, .code yX0_hasSameCells cX0_hasSameCells 2 (some .boolean)] : List Cond)) : w ∈ lwA := by
  rcases List.mem_cons.mp h with h | h
  · rw [h]; exact tm2 (i := 200) rfl rfl
  rcases List.mem_cons.mp h with h | h
  · rw [h]; exact tm2 (i := 201) rfl rfl
  rcases List.mem_cons.mp h with h | h
  · rw [h]; exact tm1 (i := 5) rfl rfl
  rw [List.mem_singleton.mp h]; exact wc_X0_hasSameCells
theorem wc_X7_meetings : Cond.code yX7_meetings cX7_meetings 4 (some .int) ∈ lwA := tm2 (i := 207) rfl rfl
theorem wm_X7_meetings {w : Cond} (h : w ∈ ([.instanceMethod yX7_meetings, .selects (fcl 7).1 yX7_meetings yX7_meetings, .initialized (fcl 7).1, .code yX7_meetings cX7_meetings 4 (some .int)] : List Cond)) : w ∈ lwA := by
  rcases List.mem_cons.mp h with h | h
  · rw [h]; exact tm2 (i := 205) rfl rfl
  rcases List.mem_cons.mp h with h | h
  · rw [h]; exact tm2 (i := 206) rfl rfl
  rcases List.mem_cons.mp h with h | h
  · rw [h]; exact tm1 (i := 1) rfl rfl
  rw [List.mem_singleton.mp h]; exact wc_X7_meetings
theorem wc_X0_meets : Cond.code yX0_meets cX0_meets 2 (some .boolean) ∈ lwA := tm2 (i := 211) rfl rfl
theorem wm_X0_meets {w : Cond} (h : w ∈ ([.instanceMethod yX0_meets, .selects (fcl 0).1 yX0_meets yX0_meets, .initialized (fcl 0).1, .code yX0_meets cX0_meets 2 (some .boolean)] : List Cond)) : w ∈ lwA := by
  rcases List.mem_cons.mp h with h | h
  · rw [h]; exact tm2 (i := 209) rfl rfl
  rcases List.mem_cons.mp h with h | h
  · rw [h]; exact tm2 (i := 210) rfl rfl
  rcases List.mem_cons.mp h with h | h
  · rw [h]; exact tm1 (i := 5) rfl rfl
  rw [List.mem_singleton.mp h]; exact wc_X0_meets
theorem wc_X7_covered : Cond.code yX7_covered cX7_covered 2 (some .double) ∈ lwA := tm2 (i := 216) rfl rfl
theorem wm_X7_covered {w : Cond} (h : w ∈ ([.instanceMethod yX7_covered, .selects (fcl 7).1 yX7_covered yX7_covered, .initialized (fcl 7).1, .code yX7_covered cX7_covered 2 (some .double)] : List Cond)) : w ∈ lwA := by
  rcases List.mem_cons.mp h with h | h
  · rw [h]; exact tm2 (i := 214) rfl rfl
  rcases List.mem_cons.mp h with h | h
  · rw [h]; exact tm2 (i := 215) rfl rfl
  rcases List.mem_cons.mp h with h | h
  · rw [h]; exact tm1 (i := 1) rfl rfl
  rw [List.mem_singleton.mp h]; exact wc_X7_covered
theorem wc_X7_countCoveredCells : Cond.code yX7_countCoveredCells cX7_countCoveredCells 3 (some .int) ∈ lwA := tm2 (i := 220) rfl rfl
theorem wm_X7_countCoveredCells {w : Cond} (h : w ∈ ([.instanceMethod yX7_countCoveredCells, .selects (fcl 7).1 yX7_countCoveredCells yX7_countCoveredCells, .initialized (fcl 7).1, .code yX7_countCoveredCells cX7_countCoveredCells 3 (some .int)] : List Cond)) : w ∈ lwA := by
  rcases List.mem_cons.mp h with h | h
  · rw [h]; exact tm2 (i := 219) rfl rfl
  rcases List.mem_cons.mp h with h | h
  · rw [h]; exact tmp (i := 17) rfl rfl
  rcases List.mem_cons.mp h with h | h
  · rw [h]; exact tm1 (i := 1) rfl rfl
  rw [List.mem_singleton.mp h]; exact wc_X7_countCoveredCells
theorem wc_X7_countCoveredCellsIn : Cond.code yX7_countCoveredCellsIn cX7_countCoveredCellsIn 4 (some .int) ∈ lwA := tm2 (i := 224) rfl rfl
theorem wm_X7_countCoveredCellsIn {w : Cond} (h : w ∈ ([.instanceMethod yX7_countCoveredCellsIn, .selects (fcl 7).1 yX7_countCoveredCellsIn yX7_countCoveredCellsIn, .initialized (fcl 7).1, .code yX7_countCoveredCellsIn cX7_countCoveredCellsIn 4 (some .int)] : List Cond)) : w ∈ lwA := by
  rcases List.mem_cons.mp h with h | h
  · rw [h]; exact tm2 (i := 223) rfl rfl
  rcases List.mem_cons.mp h with h | h
  · rw [h]; exact tmp (i := 18) rfl rfl
  rcases List.mem_cons.mp h with h | h
  · rw [h]; exact tm1 (i := 1) rfl rfl
  rw [List.mem_singleton.mp h]; exact wc_X7_countCoveredCellsIn
theorem wc_X7_clearLine : Cond.code yX7_clearLine cX7_clearLine 2 none ∈ lwA := tm2 (i := 228) rfl rfl
theorem wm_X7_clearLine {w : Cond} (h : w ∈ ([.instanceMethod yX7_clearLine, .selects (fcl 7).1 yX7_clearLine yX7_clearLine, .initialized (fcl 7).1, .code yX7_clearLine cX7_clearLine 2 none] : List Cond)) : w ∈ lwA := by
  rcases List.mem_cons.mp h with h | h
  · rw [h]; exact tm2 (i := 227) rfl rfl
  rcases List.mem_cons.mp h with h | h
  · rw [h]; exact tmp (i := 19) rfl rfl
  rcases List.mem_cons.mp h with h | h
  · rw [h]; exact tm1 (i := 1) rfl rfl
  rw [List.mem_singleton.mp h]; exact wc_X7_clearLine
theorem wc_X0_hasRow : Cond.code yX0_hasRow cX0_hasRow 2 (some .boolean) ∈ lwA := tm2 (i := 232) rfl rfl
theorem wm_X0_hasRow {w : Cond} (h : w ∈ ([.instanceMethod yX0_hasRow, .selects (fcl 0).1 yX0_hasRow yX0_hasRow, .initialized (fcl 0).1, .code yX0_hasRow cX0_hasRow 2 (some .boolean)] : List Cond)) : w ∈ lwA := by
  rcases List.mem_cons.mp h with h | h
  · rw [h]; exact tm2 (i := 230) rfl rfl
  rcases List.mem_cons.mp h with h | h
  · rw [h]; exact tm2 (i := 231) rfl rfl
  rcases List.mem_cons.mp h with h | h
  · rw [h]; exact tm1 (i := 5) rfl rfl
  rw [List.mem_singleton.mp h]; exact wc_X0_hasRow
theorem wc_X7_markLine : Cond.code yX7_markLine cX7_markLine 3 none ∈ lwA := tm2 (i := 237) rfl rfl
theorem wm_X7_markLine {w : Cond} (h : w ∈ ([.instanceMethod yX7_markLine, .selects (fcl 7).1 yX7_markLine yX7_markLine, .initialized (fcl 7).1, .code yX7_markLine cX7_markLine 3 none] : List Cond)) : w ∈ lwA := by
  rcases List.mem_cons.mp h with h | h
  · rw [h]; exact tm2 (i := 236) rfl rfl
  rcases List.mem_cons.mp h with h | h
  · rw [h]; exact tmp (i := 20) rfl rfl
  rcases List.mem_cons.mp h with h | h
  · rw [h]; exact tm1 (i := 1) rfl rfl
  rw [List.mem_singleton.mp h]; exact wc_X7_markLine
theorem wc_X7_narrowest : Cond.code yX7_narrowest cX7_narrowest 2 (some .int) ∈ lwA := tm3 (i := 3) rfl rfl
theorem wm_X7_narrowest {w : Cond} (h : w ∈ ([.instanceMethod yX7_narrowest, .selects (fcl 7).1 yX7_narrowest yX7_narrowest, .initialized (fcl 7).1, .code yX7_narrowest cX7_narrowest 2 (some .int)] : List Cond)) : w ∈ lwA := by
  rcases List.mem_cons.mp h with h | h
  · rw [h]; exact tm3 (i := 1) rfl rfl
  rcases List.mem_cons.mp h with h | h
  · rw [h]; exact tm3 (i := 2) rfl rfl
  rcases List.mem_cons.mp h with h | h
  · rw [h]; exact tm1 (i := 1) rfl rfl
  rw [List.mem_singleton.mp h]; exact wc_X7_narrowest
theorem wc_X4_canLayEveryWord : Cond.code yX4_canLayEveryWord cX4_canLayEveryWord 3 (some .boolean) ∈ lwA := tm3 (i := 7) rfl rfl
theorem wm_X4_canLayEveryWord {w : Cond} (h : w ∈ ([.instanceMethod yX4_canLayEveryWord, .selects (fcl 4).1 yX4_canLayEveryWord yX4_canLayEveryWord, .initialized (fcl 4).1, .code yX4_canLayEveryWord cX4_canLayEveryWord 3 (some .boolean)] : List Cond)) : w ∈ lwA := by
  rcases List.mem_cons.mp h with h | h
  · rw [h]; exact tm3 (i := 5) rfl rfl
  rcases List.mem_cons.mp h with h | h
  · rw [h]; exact tm3 (i := 6) rfl rfl
  rcases List.mem_cons.mp h with h | h
  · rw [h]; exact tm1 (i := 7) rfl rfl
  rw [List.mem_singleton.mp h]; exact wc_X4_canLayEveryWord
theorem wc_X7_bestStride : Cond.code yX7_bestStride cX7_bestStride 5 (some .int) ∈ lwA := tm3 (i := 11) rfl rfl
theorem wm_X7_bestStride {w : Cond} (h : w ∈ ([.instanceMethod yX7_bestStride, .selects (fcl 7).1 yX7_bestStride yX7_bestStride, .initialized (fcl 7).1, .code yX7_bestStride cX7_bestStride 5 (some .int)] : List Cond)) : w ∈ lwA := by
  rcases List.mem_cons.mp h with h | h
  · rw [h]; exact tm3 (i := 9) rfl rfl
  rcases List.mem_cons.mp h with h | h
  · rw [h]; exact tm3 (i := 10) rfl rfl
  rcases List.mem_cons.mp h with h | h
  · rw [h]; exact tm1 (i := 1) rfl rfl
  rw [List.mem_singleton.mp h]; exact wc_X7_bestStride
theorem wc_X7_digest : Cond.code yX7_digest cX7_digest 4 (some .long) ∈ lwA := tm3 (i := 15) rfl rfl
theorem wm_X7_digest {w : Cond} (h : w ∈ ([.instanceMethod yX7_digest, .selects (fcl 7).1 yX7_digest yX7_digest, .initialized (fcl 7).1, .code yX7_digest cX7_digest 4 (some .long)] : List Cond)) : w ∈ lwA := by
  rcases List.mem_cons.mp h with h | h
  · rw [h]; exact tm3 (i := 13) rfl rfl
  rcases List.mem_cons.mp h with h | h
  · rw [h]; exact tm3 (i := 14) rfl rfl
  rcases List.mem_cons.mp h with h | h
  · rw [h]; exact tm1 (i := 1) rfl rfl
  rw [List.mem_singleton.mp h]; exact wc_X7_digest
theorem wc_X7_hashed : Cond.code yX7_hashed cX7_hashed 3 (some .long) ∈ lwA := tm3 (i := 19) rfl rfl
theorem wm_X7_hashed {w : Cond} (h : w ∈ ([.static yX7_hashed, .initialized yX7_hashed.cls, .code yX7_hashed cX7_hashed 3 (some .long)] : List Cond)) : w ∈ lwA := by
  rcases List.mem_cons.mp h with h | h
  · rw [h]; exact tm3 (i := 18) rfl rfl
  rcases List.mem_cons.mp h with h | h
  · rw [h]; exact tm1 (i := 1) rfl rfl
  rw [List.mem_singleton.mp h]; exact wc_X7_hashed
theorem wc_X7_value : Cond.code yX7_value cX7_value 2 (some .int) ∈ lwA := tm3 (i := 24) rfl rfl
theorem wm_X7_value {w : Cond} (h : w ∈ ([.instanceMethod yX7_value, .selects (fcl 7).1 yX7_value yX7_value, .initialized (fcl 7).1, .code yX7_value cX7_value 2 (some .int)] : List Cond)) : w ∈ lwA := by
  rcases List.mem_cons.mp h with h | h
  · rw [h]; exact tm3 (i := 22) rfl rfl
  rcases List.mem_cons.mp h with h | h
  · rw [h]; exact tm3 (i := 23) rfl rfl
  rcases List.mem_cons.mp h with h | h
  · rw [h]; exact tm1 (i := 1) rfl rfl
  rw [List.mem_singleton.mp h]; exact wc_X7_value
theorem wc_X7_requireArgument : Cond.code yX7_requireArgument cX7_requireArgument 3 none ∈ lwA := tm3 (i := 27) rfl rfl
theorem wm_X7_requireArgument {w : Cond} (h : w ∈ ([.static yX7_requireArgument, .initialized yX7_requireArgument.cls, .code yX7_requireArgument cX7_requireArgument 3 none] : List Cond)) : w ∈ lwA := by
  rcases List.mem_cons.mp h with h | h
  · rw [h]; exact tm3 (i := 26) rfl rfl
  rcases List.mem_cons.mp h with h | h
  · rw [h]; exact tm1 (i := 1) rfl rfl
  rw [List.mem_singleton.mp h]; exact wc_X7_requireArgument
theorem wc_X1_countPlaces : Cond.code yX1_countPlaces cX1_countPlaces 3 (some .int) ∈ lwA := tm3 (i := 99) rfl rfl
theorem wm_X1_countPlaces {w : Cond} (h : w ∈ ([.instanceMethod yX1_countPlaces, .selects (fcl 1).1 yX1_countPlaces yX1_countPlaces, .initialized (fcl 1).1, .code yX1_countPlaces cX1_countPlaces 3 (some .int)] : List Cond)) : w ∈ lwA := by
  rcases List.mem_cons.mp h with h | h
  · rw [h]; exact tm3 (i := 97) rfl rfl
  rcases List.mem_cons.mp h with h | h
  · rw [h]; exact tm3 (i := 98) rfl rfl
  rcases List.mem_cons.mp h with h | h
  · rw [h]; exact tm1 (i := 3) rfl rfl
  rw [List.mem_singleton.mp h]; exact wc_X1_countPlaces
theorem wc_X7_hashedWord : Cond.code yX7_hashedWord cX7_hashedWord 7 (some .long) ∈ lwA := tm3 (i := 103) rfl rfl
theorem wm_X7_hashedWord {w : Cond} (h : w ∈ ([.instanceMethod yX7_hashedWord, .selects (fcl 7).1 yX7_hashedWord yX7_hashedWord, .initialized (fcl 7).1, .code yX7_hashedWord cX7_hashedWord 7 (some .long)] : List Cond)) : w ∈ lwA := by
  rcases List.mem_cons.mp h with h | h
  · rw [h]; exact tm3 (i := 102) rfl rfl
  rcases List.mem_cons.mp h with h | h
  · rw [h]; exact tmp (i := 22) rfl rfl
  rcases List.mem_cons.mp h with h | h
  · rw [h]; exact tm1 (i := 1) rfl rfl
  rw [List.mem_singleton.mp h]; exact wc_X7_hashedWord
theorem wc_X7_word : Cond.code yX7_word cX7_word 4 (some .int) ∈ lwA := tm3 (i := 107) rfl rfl
theorem wm_X7_word {w : Cond} (h : w ∈ ([.instanceMethod yX7_word, .selects (fcl 7).1 yX7_word yX7_word, .initialized (fcl 7).1, .code yX7_word cX7_word 4 (some .int)] : List Cond)) : w ∈ lwA := by
  rcases List.mem_cons.mp h with h | h
  · rw [h]; exact tm3 (i := 105) rfl rfl
  rcases List.mem_cons.mp h with h | h
  · rw [h]; exact tm3 (i := 106) rfl rfl
  rcases List.mem_cons.mp h with h | h
  · rw [h]; exact tm1 (i := 1) rfl rfl
  rw [List.mem_singleton.mp h]; exact wc_X7_word
theorem wc_X7_requireWord : Cond.code yX7_requireWord cX7_requireWord 2 none ∈ lwA := tm3 (i := 111) rfl rfl
theorem wm_X7_requireWord {w : Cond} (h : w ∈ ([.instanceMethod yX7_requireWord, .selects (fcl 7).1 yX7_requireWord yX7_requireWord, .initialized (fcl 7).1, .code yX7_requireWord cX7_requireWord 2 none] : List Cond)) : w ∈ lwA := by
  rcases List.mem_cons.mp h with h | h
  · rw [h]; exact tm3 (i := 110) rfl rfl
  rcases List.mem_cons.mp h with h | h
  · rw [h]; exact tmp (i := 23) rfl rfl
  rcases List.mem_cons.mp h with h | h
  · rw [h]; exact tm1 (i := 1) rfl rfl
  rw [List.mem_singleton.mp h]; exact wc_X7_requireWord
theorem wc_X7_requireIndex : Cond.code yX7_requireIndex cX7_requireIndex 2 none ∈ lwA := tm3 (i := 114) rfl rfl
theorem wm_X7_requireIndex {w : Cond} (h : w ∈ ([.static yX7_requireIndex, .initialized yX7_requireIndex.cls, .code yX7_requireIndex cX7_requireIndex 2 none] : List Cond)) : w ∈ lwA := by
  rcases List.mem_cons.mp h with h | h
  · rw [h]; exact tm3 (i := 113) rfl rfl
  rcases List.mem_cons.mp h with h | h
  · rw [h]; exact tm1 (i := 1) rfl rfl
  rw [List.mem_singleton.mp h]; exact wc_X7_requireIndex
theorem wc_X7_letter : Cond.code yX7_letter cX7_letter 3 (some .int) ∈ lwA := tm3 (i := 136) rfl rfl
theorem wm_X7_letter {w : Cond} (h : w ∈ ([.instanceMethod yX7_letter, .selects (fcl 7).1 yX7_letter yX7_letter, .initialized (fcl 7).1, .code yX7_letter cX7_letter 3 (some .int)] : List Cond)) : w ∈ lwA := by
  rcases List.mem_cons.mp h with h | h
  · rw [h]; exact tm3 (i := 134) rfl rfl
  rcases List.mem_cons.mp h with h | h
  · rw [h]; exact tm3 (i := 135) rfl rfl
  rcases List.mem_cons.mp h with h | h
  · rw [h]; exact tm1 (i := 1) rfl rfl
  rw [List.mem_singleton.mp h]; exact wc_X7_letter
theorem wc_X7_place : Cond.code yX7_place cX7_place 4 (some .int) ∈ lwA := tm3 (i := 140) rfl rfl
theorem wm_X7_place {w : Cond} (h : w ∈ ([.instanceMethod yX7_place, .selects (fcl 7).1 yX7_place yX7_place, .initialized (fcl 7).1, .code yX7_place cX7_place 4 (some .int)] : List Cond)) : w ∈ lwA := by
  rcases List.mem_cons.mp h with h | h
  · rw [h]; exact tm3 (i := 138) rfl rfl
  rcases List.mem_cons.mp h with h | h
  · rw [h]; exact tm3 (i := 139) rfl rfl
  rcases List.mem_cons.mp h with h | h
  · rw [h]; exact tm1 (i := 1) rfl rfl
  rw [List.mem_singleton.mp h]; exact wc_X7_place
theorem wc_X7_extent : Cond.code yX7_extent cX7_extent 6 (some .int) ∈ lwA := tm3 (i := 145) rfl rfl
theorem wm_X7_extent {w : Cond} (h : w ∈ ([.instanceMethod yX7_extent, .selects (fcl 7).1 yX7_extent yX7_extent, .initialized (fcl 7).1, .code yX7_extent cX7_extent 6 (some .int)] : List Cond)) : w ∈ lwA := by
  rcases List.mem_cons.mp h with h | h
  · rw [h]; exact tm3 (i := 143) rfl rfl
  rcases List.mem_cons.mp h with h | h
  · rw [h]; exact tm3 (i := 144) rfl rfl
  rcases List.mem_cons.mp h with h | h
  · rw [h]; exact tm1 (i := 1) rfl rfl
  rw [List.mem_singleton.mp h]; exact wc_X7_extent
theorem wc_X7_sideOf : Cond.code yX7_sideOf cX7_sideOf 2 (some .int) ∈ lwA := tm3 (i := 148) rfl rfl
theorem wm_X7_sideOf {w : Cond} (h : w ∈ ([.static yX7_sideOf, .initialized yX7_sideOf.cls, .code yX7_sideOf cX7_sideOf 2 (some .int)] : List Cond)) : w ∈ lwA := by
  rcases List.mem_cons.mp h with h | h
  · rw [h]; exact tm3 (i := 147) rfl rfl
  rcases List.mem_cons.mp h with h | h
  · rw [h]; exact tm1 (i := 1) rfl rfl
  rw [List.mem_singleton.mp h]; exact wc_X7_sideOf
theorem wc_X7_outerOf : Cond.code yX7_outerOf cX7_outerOf 3 (some .int) ∈ lwA := tm3 (i := 152) rfl rfl
theorem wm_X7_outerOf {w : Cond} (h : w ∈ ([.static yX7_outerOf, .initialized yX7_outerOf.cls, .code yX7_outerOf cX7_outerOf 3 (some .int)] : List Cond)) : w ∈ lwA := by
  rcases List.mem_cons.mp h with h | h
  · rw [h]; exact tm3 (i := 151) rfl rfl
  rcases List.mem_cons.mp h with h | h
  · rw [h]; exact tm1 (i := 1) rfl rfl
  rw [List.mem_singleton.mp h]; exact wc_X7_outerOf
theorem wc_X7_append : Cond.code yX7_append cX7_append 2 (some .int) ∈ lwA := tm3 (i := 162) rfl rfl
theorem wm_X7_append {w : Cond} (h : w ∈ ([.instanceMethod yX7_append, .selects (fcl 7).1 yX7_append yX7_append, .initialized (fcl 7).1, .code yX7_append cX7_append 2 (some .int)] : List Cond)) : w ∈ lwA := by
  rcases List.mem_cons.mp h with h | h
  · rw [h]; exact tm3 (i := 160) rfl rfl
  rcases List.mem_cons.mp h with h | h
  · rw [h]; exact tm3 (i := 161) rfl rfl
  rcases List.mem_cons.mp h with h | h
  · rw [h]; exact tm1 (i := 1) rfl rfl
  rw [List.mem_singleton.mp h]; exact wc_X7_append
theorem wc_X6_add : Cond.code yX6_add cX6_add 2 none ∈ lwA := tm3 (i := 182) rfl rfl
theorem wm_X6_add {w : Cond} (h : w ∈ ([.instanceMethod yX6_add, .selects (fcl 6).1 yX6_add yX6_add, .initialized (fcl 6).1, .code yX6_add cX6_add 2 none] : List Cond)) : w ∈ lwA := by
  rcases List.mem_cons.mp h with h | h
  · rw [h]; exact tm3 (i := 180) rfl rfl
  rcases List.mem_cons.mp h with h | h
  · rw [h]; exact tm3 (i := 181) rfl rfl
  rcases List.mem_cons.mp h with h | h
  · rw [h]; exact tm1 (i := 2) rfl rfl
  rw [List.mem_singleton.mp h]; exact wc_X6_add
theorem wc_X7_setWeight : Cond.code yX7_setWeight cX7_setWeight 4 (some .int) ∈ lwA := tm3 (i := 190) rfl rfl
theorem wm_X7_setWeight {w : Cond} (h : w ∈ ([.instanceMethod yX7_setWeight, .selects (fcl 7).1 yX7_setWeight yX7_setWeight, .initialized (fcl 7).1, .code yX7_setWeight cX7_setWeight 4 (some .int)] : List Cond)) : w ∈ lwA := by
  rcases List.mem_cons.mp h with h | h
  · rw [h]; exact tm3 (i := 188) rfl rfl
  rcases List.mem_cons.mp h with h | h
  · rw [h]; exact tm3 (i := 189) rfl rfl
  rcases List.mem_cons.mp h with h | h
  · rw [h]; exact tm1 (i := 1) rfl rfl
  rw [List.mem_singleton.mp h]; exact wc_X7_setWeight
theorem wc_X7_setKind : Cond.code yX7_setKind cX7_setKind 5 (some .int) ∈ lwA := tm3 (i := 197) rfl rfl
theorem wm_X7_setKind {w : Cond} (h : w ∈ ([.instanceMethod yX7_setKind, .selects (fcl 7).1 yX7_setKind yX7_setKind, .initialized (fcl 7).1, .code yX7_setKind cX7_setKind 5 (some .int)] : List Cond)) : w ∈ lwA := by
  rcases List.mem_cons.mp h with h | h
  · rw [h]; exact tm3 (i := 195) rfl rfl
  rcases List.mem_cons.mp h with h | h
  · rw [h]; exact tm3 (i := 196) rfl rfl
  rcases List.mem_cons.mp h with h | h
  · rw [h]; exact tm1 (i := 1) rfl rfl
  rw [List.mem_singleton.mp h]; exact wc_X7_setKind
theorem wc_X7_remove : Cond.code yX7_remove cX7_remove 2 (some .int) ∈ lwA := tm3 (i := 204) rfl rfl
theorem wm_X7_remove {w : Cond} (h : w ∈ ([.instanceMethod yX7_remove, .selects (fcl 7).1 yX7_remove yX7_remove, .initialized (fcl 7).1, .code yX7_remove cX7_remove 2 (some .int)] : List Cond)) : w ∈ lwA := by
  rcases List.mem_cons.mp h with h | h
  · rw [h]; exact tm3 (i := 202) rfl rfl
  rcases List.mem_cons.mp h with h | h
  · rw [h]; exact tm3 (i := 203) rfl rfl
  rcases List.mem_cons.mp h with h | h
  · rw [h]; exact tm1 (i := 1) rfl rfl
  rw [List.mem_singleton.mp h]; exact wc_X7_remove
theorem wc_X1_takeOut : Cond.code yX1_takeOut cX1_takeOut 4 none ∈ lwA := tm3 (i := 208) rfl rfl
theorem wm_X1_takeOut {w : Cond} (h : w ∈ ([.instanceMethod yX1_takeOut, .selects (fcl 1).1 yX1_takeOut yX1_takeOut, .initialized (fcl 1).1, .code yX1_takeOut cX1_takeOut 4 none] : List Cond)) : w ∈ lwA := by
  rcases List.mem_cons.mp h with h | h
  · rw [h]; exact tm3 (i := 206) rfl rfl
  rcases List.mem_cons.mp h with h | h
  · rw [h]; exact tm3 (i := 207) rfl rfl
  rcases List.mem_cons.mp h with h | h
  · rw [h]; exact tm1 (i := 3) rfl rfl
  rw [List.mem_singleton.mp h]; exact wc_X1_takeOut
theorem wc_X7_setCanvas : Cond.code yX7_setCanvas cX7_setCanvas 4 (some .int) ∈ lwA := tm3 (i := 215) rfl rfl
theorem wm_X7_setCanvas {w : Cond} (h : w ∈ ([.instanceMethod yX7_setCanvas, .selects (fcl 7).1 yX7_setCanvas yX7_setCanvas, .initialized (fcl 7).1, .code yX7_setCanvas cX7_setCanvas 4 (some .int)] : List Cond)) : w ∈ lwA := by
  rcases List.mem_cons.mp h with h | h
  · rw [h]; exact tm3 (i := 213) rfl rfl
  rcases List.mem_cons.mp h with h | h
  · rw [h]; exact tm3 (i := 214) rfl rfl
  rcases List.mem_cons.mp h with h | h
  · rw [h]; exact tm1 (i := 1) rfl rfl
  rw [List.mem_singleton.mp h]; exact wc_X7_setCanvas
theorem wc_X7_setWays : Cond.code yX7_setWays cX7_setWays 5 (some .int) ∈ lwA := tm3 (i := 222) rfl rfl
theorem wm_X7_setWays {w : Cond} (h : w ∈ ([.instanceMethod yX7_setWays, .selects (fcl 7).1 yX7_setWays yX7_setWays, .initialized (fcl 7).1, .code yX7_setWays cX7_setWays 5 (some .int)] : List Cond)) : w ∈ lwA := by
  rcases List.mem_cons.mp h with h | h
  · rw [h]; exact tm3 (i := 220) rfl rfl
  rcases List.mem_cons.mp h with h | h
  · rw [h]; exact tm3 (i := 221) rfl rfl
  rcases List.mem_cons.mp h with h | h
  · rw [h]; exact tm1 (i := 1) rfl rfl
  rw [List.mem_singleton.mp h]; exact wc_X7_setWays
theorem wc_X7_wordAt : Cond.code yX7_wordAt cX7_wordAt 5 (some .int) ∈ lwA := tm4 (i := 5) rfl rfl
theorem wm_X7_wordAt {w : Cond} (h : w ∈ ([.instanceMethod yX7_wordAt, .selects (fcl 7).1 yX7_wordAt yX7_wordAt, .initialized (fcl 7).1, .code yX7_wordAt cX7_wordAt 5 (some .int)] : List Cond)) : w ∈ lwA := by
  rcases List.mem_cons.mp h with h | h
  · rw [h]; exact tm4 (i := 3) rfl rfl
  rcases List.mem_cons.mp h with h | h
  · rw [h]; exact tm4 (i := 4) rfl rfl
  rcases List.mem_cons.mp h with h | h
  · rw [h]; exact tm1 (i := 1) rfl rfl
  rw [List.mem_singleton.mp h]; exact wc_X7_wordAt
theorem wc_X0_hasColumn : Cond.code yX0_hasColumn cX0_hasColumn 2 (some .boolean) ∈ lwA := tm4 (i := 9) rfl rfl
theorem wm_X0_hasColumn {w : Cond} (h : w ∈ ([.instanceMethod yX0_hasColumn, .selects (fcl 0).1 yX0_hasColumn yX0_hasColumn, .initialized (fcl 0).1, .code yX0_hasColumn cX0_hasColumn 2 (some .boolean)] : List Cond)) : w ∈ lwA := by
  rcases List.mem_cons.mp h with h | h
  · rw [h]; exact tm4 (i := 7) rfl rfl
  rcases List.mem_cons.mp h with h | h
  · rw [h]; exact tm4 (i := 8) rfl rfl
  rcases List.mem_cons.mp h with h | h
  · rw [h]; exact tm1 (i := 5) rfl rfl
  rw [List.mem_singleton.mp h]; exact wc_X0_hasColumn
theorem wc_X7_spread : Cond.code yX7_spread cX7_spread 7 (some .int) ∈ lwA := tm4 (i := 21) rfl rfl
theorem wm_X7_spread {w : Cond} (h : w ∈ ([.instanceMethod yX7_spread, .selects (fcl 7).1 yX7_spread yX7_spread, .initialized (fcl 7).1, .code yX7_spread cX7_spread 7 (some .int)] : List Cond)) : w ∈ lwA := by
  rcases List.mem_cons.mp h with h | h
  · rw [h]; exact tm4 (i := 19) rfl rfl
  rcases List.mem_cons.mp h with h | h
  · rw [h]; exact tm4 (i := 20) rfl rfl
  rcases List.mem_cons.mp h with h | h
  · rw [h]; exact tm1 (i := 1) rfl rfl
  rw [List.mem_singleton.mp h]; exact wc_X7_spread
theorem wc_X2_standsIn : Cond.code yX2_standsIn cX2_standsIn 2 (some .boolean) ∈ lwA := tm4 (i := 25) rfl rfl
theorem wm_X2_standsIn {w : Cond} (h : w ∈ ([.instanceMethod yX2_standsIn, .selects (fcl 2).1 yX2_standsIn yX2_standsIn, .initialized (fcl 2).1, .code yX2_standsIn cX2_standsIn 2 (some .boolean)] : List Cond)) : w ∈ lwA := by
  rcases List.mem_cons.mp h with h | h
  · rw [h]; exact tm4 (i := 23) rfl rfl
  rcases List.mem_cons.mp h with h | h
  · rw [h]; exact tm4 (i := 24) rfl rfl
  rcases List.mem_cons.mp h with h | h
  · rw [h]; exact tm1 (i := 4) rfl rfl
  rw [List.mem_singleton.mp h]; exact wc_X2_standsIn
theorem wc_X0_distanceTo : Cond.code yX0_distanceTo cX0_distanceTo 2 (some .int) ∈ lwA := tm4 (i := 29) rfl rfl
theorem wm_X0_distanceTo {w : Cond} (h : w ∈ ([.instanceMethod yX0_distanceTo, .selects (fcl 0).1 yX0_distanceTo yX0_distanceTo, .initialized (fcl 0).1, .code yX0_distanceTo cX0_distanceTo 2 (some .int)] : List Cond)) : w ∈ lwA := by
  rcases List.mem_cons.mp h with h | h
  · rw [h]; exact tm4 (i := 27) rfl rfl
  rcases List.mem_cons.mp h with h | h
  · rw [h]; exact tm4 (i := 28) rfl rfl
  rcases List.mem_cons.mp h with h | h
  · rw [h]; exact tm1 (i := 5) rfl rfl
  rw [List.mem_singleton.mp h]; exact wc_X0_distanceTo
theorem wc_J9_abs_0f7a4 : Cond.code yJ9_abs_0f7a4 cJ9_abs_0f7a4 1 (some .int) ∈ lwA := tm4 (i := 33) rfl rfl
theorem wm_J9_abs_0f7a4 {w : Cond} (h : w ∈ ([.static yJ9_abs_0f7a4, .initialized yJ9_abs_0f7a4.cls, .code yJ9_abs_0f7a4 cJ9_abs_0f7a4 1 (some .int)] : List Cond)) : w ∈ lwA := by
  rcases List.mem_cons.mp h with h | h
  · rw [h]; exact tm4 (i := 32) rfl rfl
  rcases List.mem_cons.mp h with h | h
  · rw [h]; exact tm1 (i := 16) rfl rfl
  rw [List.mem_singleton.mp h]; exact wc_J9_abs_0f7a4
theorem wc_X7_placedOn : Cond.code yX7_placedOn cX7_placedOn 4 (some .int) ∈ lwA := tm4 (i := 41) rfl rfl
theorem wm_X7_placedOn {w : Cond} (h : w ∈ ([.instanceMethod yX7_placedOn, .selects (fcl 7).1 yX7_placedOn yX7_placedOn, .initialized (fcl 7).1, .code yX7_placedOn cX7_placedOn 4 (some .int)] : List Cond)) : w ∈ lwA := by
  rcases List.mem_cons.mp h with h | h
  · rw [h]; exact tm4 (i := 39) rfl rfl
  rcases List.mem_cons.mp h with h | h
  · rw [h]; exact tm4 (i := 40) rfl rfl
  rcases List.mem_cons.mp h with h | h
  · rw [h]; exact tm1 (i := 1) rfl rfl
  rw [List.mem_singleton.mp h]; exact wc_X7_placedOn
theorem wc_X7_movedBy : Cond.code yX7_movedBy cX7_movedBy 3 (some .int) ∈ lwA := tm4 (i := 48) rfl rfl
theorem wm_X7_movedBy {w : Cond} (h : w ∈ ([.instanceMethod yX7_movedBy, .selects (fcl 7).1 yX7_movedBy yX7_movedBy, .initialized (fcl 7).1, .code yX7_movedBy cX7_movedBy 3 (some .int)] : List Cond)) : w ∈ lwA := by
  rcases List.mem_cons.mp h with h | h
  · rw [h]; exact tm4 (i := 46) rfl rfl
  rcases List.mem_cons.mp h with h | h
  · rw [h]; exact tm4 (i := 47) rfl rfl
  rcases List.mem_cons.mp h with h | h
  · rw [h]; exact tm1 (i := 1) rfl rfl
  rw [List.mem_singleton.mp h]; exact wc_X7_movedBy
theorem wc_X7_undo : Cond.code yX7_undo cX7_undo 1 (some .int) ∈ lwA := tm4 (i := 55) rfl rfl
theorem wm_X7_undo {w : Cond} (h : w ∈ ([.instanceMethod yX7_undo, .selects (fcl 7).1 yX7_undo yX7_undo, .initialized (fcl 7).1, .code yX7_undo cX7_undo 1 (some .int)] : List Cond)) : w ∈ lwA := by
  rcases List.mem_cons.mp h with h | h
  · rw [h]; exact tm4 (i := 53) rfl rfl
  rcases List.mem_cons.mp h with h | h
  · rw [h]; exact tm4 (i := 54) rfl rfl
  rcases List.mem_cons.mp h with h | h
  · rw [h]; exact tm1 (i := 1) rfl rfl
  rw [List.mem_singleton.mp h]; exact wc_X7_undo
theorem wc_X3_restoreInto : Cond.code yX3_restoreInto cX3_restoreInto 2 none ∈ lwA := tm4 (i := 60) rfl rfl
theorem wm_X3_restoreInto {w : Cond} (h : w ∈ ([.instanceMethod yX3_restoreInto, .selects (fcl 3).1 yX3_restoreInto yX3_restoreInto, .initialized (fcl 3).1, .code yX3_restoreInto cX3_restoreInto 2 none] : List Cond)) : w ∈ lwA := by
  rcases List.mem_cons.mp h with h | h
  · rw [h]; exact tm4 (i := 58) rfl rfl
  rcases List.mem_cons.mp h with h | h
  · rw [h]; exact tm4 (i := 59) rfl rfl
  rcases List.mem_cons.mp h with h | h
  · rw [h]; exact tm1 (i := 6) rfl rfl
  rw [List.mem_singleton.mp h]; exact wc_X3_restoreInto
theorem wc_X8_thrown : Cond.code yX8_thrown cX8_thrown 1 (some .int) ∈ lwA := tm4 (i := 113) rfl rfl
theorem wm_X8_thrown {w : Cond} (h : w ∈ ([.instanceMethod yX8_thrown, .selects (fcl 8).1 yX8_thrown yX8_thrown, .initialized (fcl 8).1, .code yX8_thrown cX8_thrown 1 (some .int)] : List Cond)) : w ∈ lwA := by
  rcases List.mem_cons.mp h with h | h
  · rw [h]; exact tm4 (i := 111) rfl rfl
  rcases List.mem_cons.mp h with h | h
  · rw [h]; exact tm4 (i := 112) rfl rfl
  rcases List.mem_cons.mp h with h | h
  · rw [h]; exact tm1 (i := 9) rfl rfl
  rw [List.mem_singleton.mp h]; exact wc_X8_thrown
theorem wc_X8_setWeight : Cond.code yX8_setWeight cX8_setWeight 4 (some .int) ∈ lwA := tm4 (i := 117) rfl rfl
theorem wm_X8_setWeight {w : Cond} (h : w ∈ ([.instanceMethod yX8_setWeight, .selects (fcl 8).1 yX8_setWeight yX8_setWeight, .initialized (fcl 8).1, .code yX8_setWeight cX8_setWeight 4 (some .int)] : List Cond)) : w ∈ lwA := by
  rcases List.mem_cons.mp h with h | h
  · rw [h]; exact tm4 (i := 115) rfl rfl
  rcases List.mem_cons.mp h with h | h
  · rw [h]; exact tm4 (i := 116) rfl rfl
  rcases List.mem_cons.mp h with h | h
  · rw [h]; exact tm1 (i := 9) rfl rfl
  rw [List.mem_singleton.mp h]; exact wc_X8_setWeight
theorem wc_X8_isWord : Cond.code yX8_isWord cX8_isWord 2 (some .boolean) ∈ lwA := tm4 (i := 121) rfl rfl
theorem wm_X8_isWord {w : Cond} (h : w ∈ ([.instanceMethod yX8_isWord, .selects (fcl 8).1 yX8_isWord yX8_isWord, .initialized (fcl 8).1, .code yX8_isWord cX8_isWord 2 (some .boolean)] : List Cond)) : w ∈ lwA := by
  rcases List.mem_cons.mp h with h | h
  · rw [h]; exact tm4 (i := 120) rfl rfl
  rcases List.mem_cons.mp h with h | h
  · rw [h]; exact tmp (i := 24) rfl rfl
  rcases List.mem_cons.mp h with h | h
  · rw [h]; exact tm1 (i := 9) rfl rfl
  rw [List.mem_singleton.mp h]; exact wc_X8_isWord
theorem wc_X8_in : Cond.code yX8_in cX8_in 6 (some .boolean) ∈ lwA := tm4 (i := 124) rfl rfl
theorem wm_X8_in {w : Cond} (h : w ∈ ([.static yX8_in, .initialized yX8_in.cls, .code yX8_in cX8_in 6 (some .boolean)] : List Cond)) : w ∈ lwA := by
  rcases List.mem_cons.mp h with h | h
  · rw [h]; exact tm4 (i := 123) rfl rfl
  rcases List.mem_cons.mp h with h | h
  · rw [h]; exact tm1 (i := 9) rfl rfl
  rw [List.mem_singleton.mp h]; exact wc_X8_in
theorem wc_X8_goes : Cond.code yX8_goes cX8_goes 3 (some .boolean) ∈ lwA := tm4 (i := 129) rfl rfl
theorem wm_X8_goes {w : Cond} (h : w ∈ ([.instanceMethod yX8_goes, .selects (fcl 8).1 yX8_goes yX8_goes, .initialized (fcl 8).1, .code yX8_goes cX8_goes 3 (some .boolean)] : List Cond)) : w ∈ lwA := by
  rcases List.mem_cons.mp h with h | h
  · rw [h]; exact tm4 (i := 128) rfl rfl
  rcases List.mem_cons.mp h with h | h
  · rw [h]; exact tmp (i := 25) rfl rfl
  rcases List.mem_cons.mp h with h | h
  · rw [h]; exact tm1 (i := 9) rfl rfl
  rw [List.mem_singleton.mp h]; exact wc_X8_goes
theorem wc_X8_save : Cond.code yX8_save cX8_save 2 none ∈ lwA := tm4 (i := 133) rfl rfl
theorem wm_X8_save {w : Cond} (h : w ∈ ([.instanceMethod yX8_save, .selects (fcl 8).1 yX8_save yX8_save, .initialized (fcl 8).1, .code yX8_save cX8_save 2 none] : List Cond)) : w ∈ lwA := by
  rcases List.mem_cons.mp h with h | h
  · rw [h]; exact tm4 (i := 132) rfl rfl
  rcases List.mem_cons.mp h with h | h
  · rw [h]; exact tmp (i := 26) rfl rfl
  rcases List.mem_cons.mp h with h | h
  · rw [h]; exact tm1 (i := 9) rfl rfl
  rw [List.mem_singleton.mp h]; exact wc_X8_save
theorem wc_X8_of : Cond.code yX8_of cX8_of 3 (some .int) ∈ lwA := tm4 (i := 137) rfl rfl
theorem wm_X8_of {w : Cond} (h : w ∈ ([.instanceMethod yX8_of, .selects (fcl 8).1 yX8_of yX8_of, .initialized (fcl 8).1, .code yX8_of cX8_of 3 (some .int)] : List Cond)) : w ∈ lwA := by
  rcases List.mem_cons.mp h with h | h
  · rw [h]; exact tm4 (i := 136) rfl rfl
  rcases List.mem_cons.mp h with h | h
  · rw [h]; exact tmp (i := 27) rfl rfl
  rcases List.mem_cons.mp h with h | h
  · rw [h]; exact tm1 (i := 9) rfl rfl
  rw [List.mem_singleton.mp h]; exact wc_X8_of
theorem wc_X8_at : Cond.code yX8_at cX8_at 2 (some .int) ∈ lwA := tm4 (i := 140) rfl rfl
theorem wm_X8_at {w : Cond} (h : w ∈ ([.static yX8_at, .initialized yX8_at.cls, .code yX8_at cX8_at 2 (some .int)] : List Cond)) : w ∈ lwA := by
  rcases List.mem_cons.mp h with h | h
  · rw [h]; exact tm4 (i := 139) rfl rfl
  rcases List.mem_cons.mp h with h | h
  · rw [h]; exact tm1 (i := 9) rfl rfl
  rw [List.mem_singleton.mp h]; exact wc_X8_at
theorem wc_X8_setKind : Cond.code yX8_setKind cX8_setKind 5 (some .int) ∈ lwA := tm4 (i := 144) rfl rfl
theorem wm_X8_setKind {w : Cond} (h : w ∈ ([.instanceMethod yX8_setKind, .selects (fcl 8).1 yX8_setKind yX8_setKind, .initialized (fcl 8).1, .code yX8_setKind cX8_setKind 5 (some .int)] : List Cond)) : w ∈ lwA := by
  rcases List.mem_cons.mp h with h | h
  · rw [h]; exact tm4 (i := 142) rfl rfl
  rcases List.mem_cons.mp h with h | h
  · rw [h]; exact tm4 (i := 143) rfl rfl
  rcases List.mem_cons.mp h with h | h
  · rw [h]; exact tm1 (i := 9) rfl rfl
  rw [List.mem_singleton.mp h]; exact wc_X8_setKind
theorem wc_X8_remove : Cond.code yX8_remove cX8_remove 3 (some .int) ∈ lwA := tm4 (i := 150) rfl rfl
theorem wm_X8_remove {w : Cond} (h : w ∈ ([.instanceMethod yX8_remove, .selects (fcl 8).1 yX8_remove yX8_remove, .initialized (fcl 8).1, .code yX8_remove cX8_remove 3 (some .int)] : List Cond)) : w ∈ lwA := by
  rcases List.mem_cons.mp h with h | h
  · rw [h]; exact tm4 (i := 148) rfl rfl
  rcases List.mem_cons.mp h with h | h
  · rw [h]; exact tm4 (i := 149) rfl rfl
  rcases List.mem_cons.mp h with h | h
  · rw [h]; exact tm1 (i := 9) rfl rfl
  rw [List.mem_singleton.mp h]; exact wc_X8_remove
theorem wc_X8_setCanvas : Cond.code yX8_setCanvas cX8_setCanvas 4 (some .int) ∈ lwA := tm4 (i := 154) rfl rfl
theorem wm_X8_setCanvas {w : Cond} (h : w ∈ ([.instanceMethod yX8_setCanvas, .selects (fcl 8).1 yX8_setCanvas yX8_setCanvas, .initialized (fcl 8).1, .code yX8_setCanvas cX8_setCanvas 4 (some .int)] : List Cond)) : w ∈ lwA := by
  rcases List.mem_cons.mp h with h | h
  · rw [h]; exact tm4 (i := 152) rfl rfl
  rcases List.mem_cons.mp h with h | h
  · rw [h]; exact tm4 (i := 153) rfl rfl
  rcases List.mem_cons.mp h with h | h
  · rw [h]; exact tm1 (i := 9) rfl rfl
  rw [List.mem_singleton.mp h]; exact wc_X8_setCanvas
theorem wc_X8_isCanvas : Cond.code yX8_isCanvas cX8_isCanvas 2 (some .boolean) ∈ lwA := tm4 (i := 157) rfl rfl
theorem wm_X8_isCanvas {w : Cond} (h : w ∈ ([.static yX8_isCanvas, .initialized yX8_isCanvas.cls, .code yX8_isCanvas cX8_isCanvas 2 (some .boolean)] : List Cond)) : w ∈ lwA := by
  rcases List.mem_cons.mp h with h | h
  · rw [h]; exact tm4 (i := 156) rfl rfl
  rcases List.mem_cons.mp h with h | h
  · rw [h]; exact tm1 (i := 9) rfl rfl
  rw [List.mem_singleton.mp h]; exact wc_X8_isCanvas
theorem wc_X8_setWays : Cond.code yX8_setWays cX8_setWays 5 (some .int) ∈ lwA := tm4 (i := 164) rfl rfl
theorem wm_X8_setWays {w : Cond} (h : w ∈ ([.instanceMethod yX8_setWays, .selects (fcl 8).1 yX8_setWays yX8_setWays, .initialized (fcl 8).1, .code yX8_setWays cX8_setWays 5 (some .int)] : List Cond)) : w ∈ lwA := by
  rcases List.mem_cons.mp h with h | h
  · rw [h]; exact tm4 (i := 162) rfl rfl
  rcases List.mem_cons.mp h with h | h
  · rw [h]; exact tm4 (i := 163) rfl rfl
  rcases List.mem_cons.mp h with h | h
  · rw [h]; exact tm1 (i := 9) rfl rfl
  rw [List.mem_singleton.mp h]; exact wc_X8_setWays
theorem wc_X8_word : Cond.code yX8_word cX8_word 3 (some .int) ∈ lwA := tm4 (i := 170) rfl rfl
theorem wm_X8_word {w : Cond} (h : w ∈ ([.instanceMethod yX8_word, .selects (fcl 8).1 yX8_word yX8_word, .initialized (fcl 8).1, .code yX8_word cX8_word 3 (some .int)] : List Cond)) : w ∈ lwA := by
  rcases List.mem_cons.mp h with h | h
  · rw [h]; exact tm4 (i := 168) rfl rfl
  rcases List.mem_cons.mp h with h | h
  · rw [h]; exact tm4 (i := 169) rfl rfl
  rcases List.mem_cons.mp h with h | h
  · rw [h]; exact tm1 (i := 9) rfl rfl
  rw [List.mem_singleton.mp h]; exact wc_X8_word
theorem wc_X8_wordValue : Cond.code yX8_wordValue cX8_wordValue 3 (some .int) ∈ lwA := tm4 (i := 175) rfl rfl
theorem wm_X8_wordValue {w : Cond} (h : w ∈ ([.instanceMethod yX8_wordValue, .selects (fcl 8).1 yX8_wordValue yX8_wordValue, .initialized (fcl 8).1, .code yX8_wordValue cX8_wordValue 3 (some .int)] : List Cond)) : w ∈ lwA := by
  rcases List.mem_cons.mp h with h | h
  · rw [h]; exact tm4 (i := 174) rfl rfl
  rcases List.mem_cons.mp h with h | h
  · rw [h]; exact tmp (i := 28) rfl rfl
  rcases List.mem_cons.mp h with h | h
  · rw [h]; exact tm1 (i := 9) rfl rfl
  rw [List.mem_singleton.mp h]; exact wc_X8_wordValue
theorem wc_X8_rankOf : Cond.code yX8_rankOf cX8_rankOf 5 (some .int) ∈ lwA := tm4 (i := 179) rfl rfl
theorem wm_X8_rankOf {w : Cond} (h : w ∈ ([.instanceMethod yX8_rankOf, .selects (fcl 8).1 yX8_rankOf yX8_rankOf, .initialized (fcl 8).1, .code yX8_rankOf cX8_rankOf 5 (some .int)] : List Cond)) : w ∈ lwA := by
  rcases List.mem_cons.mp h with h | h
  · rw [h]; exact tm4 (i := 178) rfl rfl
  rcases List.mem_cons.mp h with h | h
  · rw [h]; exact tmp (i := 29) rfl rfl
  rcases List.mem_cons.mp h with h | h
  · rw [h]; exact tm1 (i := 9) rfl rfl
  rw [List.mem_singleton.mp h]; exact wc_X8_rankOf
theorem wc_X8_sizeOf : Cond.code yX8_sizeOf cX8_sizeOf 4 (some .int) ∈ lwA := tm4 (i := 183) rfl rfl
theorem wm_X8_sizeOf {w : Cond} (h : w ∈ ([.instanceMethod yX8_sizeOf, .selects (fcl 8).1 yX8_sizeOf yX8_sizeOf, .initialized (fcl 8).1, .code yX8_sizeOf cX8_sizeOf 4 (some .int)] : List Cond)) : w ∈ lwA := by
  rcases List.mem_cons.mp h with h | h
  · rw [h]; exact tm4 (i := 182) rfl rfl
  rcases List.mem_cons.mp h with h | h
  · rw [h]; exact tmp (i := 30) rfl rfl
  rcases List.mem_cons.mp h with h | h
  · rw [h]; exact tm1 (i := 9) rfl rfl
  rw [List.mem_singleton.mp h]; exact wc_X8_sizeOf
theorem wc_X8_ranked : Cond.code yX8_ranked cX8_ranked 3 (some .int) ∈ lwA := tm4 (i := 187) rfl rfl
theorem wm_X8_ranked {w : Cond} (h : w ∈ ([.instanceMethod yX8_ranked, .selects (fcl 8).1 yX8_ranked yX8_ranked, .initialized (fcl 8).1, .code yX8_ranked cX8_ranked 3 (some .int)] : List Cond)) : w ∈ lwA := by
  rcases List.mem_cons.mp h with h | h
  · rw [h]; exact tm4 (i := 186) rfl rfl
  rcases List.mem_cons.mp h with h | h
  · rw [h]; exact tmp (i := 31) rfl rfl
  rcases List.mem_cons.mp h with h | h
  · rw [h]; exact tm1 (i := 9) rfl rfl
  rw [List.mem_singleton.mp h]; exact wc_X8_ranked
theorem wc_X8_letter : Cond.code yX8_letter cX8_letter 3 (some .int) ∈ lwA := tm4 (i := 191) rfl rfl
theorem wm_X8_letter {w : Cond} (h : w ∈ ([.instanceMethod yX8_letter, .selects (fcl 8).1 yX8_letter yX8_letter, .initialized (fcl 8).1, .code yX8_letter cX8_letter 3 (some .int)] : List Cond)) : w ∈ lwA := by
  rcases List.mem_cons.mp h with h | h
  · rw [h]; exact tm4 (i := 189) rfl rfl
  rcases List.mem_cons.mp h with h | h
  · rw [h]; exact tm4 (i := 190) rfl rfl
  rcases List.mem_cons.mp h with h | h
  · rw [h]; exact tm1 (i := 9) rfl rfl
  rw [List.mem_singleton.mp h]; exact wc_X8_letter
theorem wc_X8_value : Cond.code yX8_value cX8_value 2 (some .int) ∈ lwA := tm4 (i := 195) rfl rfl
theorem wm_X8_value {w : Cond} (h : w ∈ ([.instanceMethod yX8_value, .selects (fcl 8).1 yX8_value yX8_value, .initialized (fcl 8).1, .code yX8_value cX8_value 2 (some .int)] : List Cond)) : w ∈ lwA := by
  rcases List.mem_cons.mp h with h | h
  · rw [h]; exact tm4 (i := 193) rfl rfl
  rcases List.mem_cons.mp h with h | h
  · rw [h]; exact tm4 (i := 194) rfl rfl
  rcases List.mem_cons.mp h with h | h
  · rw [h]; exact tm1 (i := 9) rfl rfl
  rw [List.mem_singleton.mp h]; exact wc_X8_value
theorem wc_X8_valueOf : Cond.code yX8_valueOf cX8_valueOf 2 (some .int) ∈ lwA := tm4 (i := 200) rfl rfl
theorem wm_X8_valueOf {w : Cond} (h : w ∈ ([.instanceMethod yX8_valueOf, .selects (fcl 8).1 yX8_valueOf yX8_valueOf, .initialized (fcl 8).1, .code yX8_valueOf cX8_valueOf 2 (some .int)] : List Cond)) : w ∈ lwA := by
  rcases List.mem_cons.mp h with h | h
  · rw [h]; exact tm4 (i := 199) rfl rfl
  rcases List.mem_cons.mp h with h | h
  · rw [h]; exact tmp (i := 32) rfl rfl
  rcases List.mem_cons.mp h with h | h
  · rw [h]; exact tm1 (i := 9) rfl rfl
  rw [List.mem_singleton.mp h]; exact wc_X8_valueOf
theorem wc_X8_placed : Cond.code yX8_placed cX8_placed 3 (some .int) ∈ lwA := tm4 (i := 204) rfl rfl
theorem wm_X8_placed {w : Cond} (h : w ∈ ([.instanceMethod yX8_placed, .selects (fcl 8).1 yX8_placed yX8_placed, .initialized (fcl 8).1, .code yX8_placed cX8_placed 3 (some .int)] : List Cond)) : w ∈ lwA := by
  rcases List.mem_cons.mp h with h | h
  · rw [h]; exact tm4 (i := 203) rfl rfl
  rcases List.mem_cons.mp h with h | h
  · rw [h]; exact tmp (i := 33) rfl rfl
  rcases List.mem_cons.mp h with h | h
  · rw [h]; exact tm1 (i := 9) rfl rfl
  rw [List.mem_singleton.mp h]; exact wc_X8_placed
theorem wc_X8_hasPlace : Cond.code yX8_hasPlace cX8_hasPlace 2 (some .boolean) ∈ lwA := tm4 (i := 208) rfl rfl
theorem wm_X8_hasPlace {w : Cond} (h : w ∈ ([.instanceMethod yX8_hasPlace, .selects (fcl 8).1 yX8_hasPlace yX8_hasPlace, .initialized (fcl 8).1, .code yX8_hasPlace cX8_hasPlace 2 (some .boolean)] : List Cond)) : w ∈ lwA := by
  rcases List.mem_cons.mp h with h | h
  · rw [h]; exact tm4 (i := 207) rfl rfl
  rcases List.mem_cons.mp h with h | h
  · rw [h]; exact tmp (i := 34) rfl rfl
  rcases List.mem_cons.mp h with h | h
  · rw [h]; exact tm1 (i := 9) rfl rfl
  rw [List.mem_singleton.mp h]; exact wc_X8_hasPlace
theorem wc_X8_lay : Cond.code yX8_lay cX8_lay 2 (some .int) ∈ lwA := tm4 (i := 212) rfl rfl
theorem wm_X8_lay {w : Cond} (h : w ∈ ([.instanceMethod yX8_lay, .selects (fcl 8).1 yX8_lay yX8_lay, .initialized (fcl 8).1, .code yX8_lay cX8_lay 2 (some .int)] : List Cond)) : w ∈ lwA := by
  rcases List.mem_cons.mp h with h | h
  · rw [h]; exact tm4 (i := 210) rfl rfl
  rcases List.mem_cons.mp h with h | h
  · rw [h]; exact tm4 (i := 211) rfl rfl
  rcases List.mem_cons.mp h with h | h
  · rw [h]; exact tm1 (i := 9) rfl rfl
  rw [List.mem_singleton.mp h]; exact wc_X8_lay
theorem wc_X8_laysAll : Cond.code yX8_laysAll cX8_laysAll 4 (some .int) ∈ lwA := tm4 (i := 216) rfl rfl
theorem wm_X8_laysAll {w : Cond} (h : w ∈ ([.instanceMethod yX8_laysAll, .selects (fcl 8).1 yX8_laysAll yX8_laysAll, .initialized (fcl 8).1, .code yX8_laysAll cX8_laysAll 4 (some .int)] : List Cond)) : w ∈ lwA := by
  rcases List.mem_cons.mp h with h | h
  · rw [h]; exact tm4 (i := 215) rfl rfl
  rcases List.mem_cons.mp h with h | h
  · rw [h]; exact tmp (i := 35) rfl rfl
  rcases List.mem_cons.mp h with h | h
  · rw [h]; exact tm1 (i := 9) rfl rfl
  rw [List.mem_singleton.mp h]; exact wc_X8_laysAll
theorem wc_X8_keeps : Cond.code yX8_keeps cX8_keeps 5 (some .boolean) ∈ lwA := tm4 (i := 220) rfl rfl
theorem wm_X8_keeps {w : Cond} (h : w ∈ ([.instanceMethod yX8_keeps, .selects (fcl 8).1 yX8_keeps yX8_keeps, .initialized (fcl 8).1, .code yX8_keeps cX8_keeps 5 (some .boolean)] : List Cond)) : w ∈ lwA := by
  rcases List.mem_cons.mp h with h | h
  · rw [h]; exact tm4 (i := 219) rfl rfl
  rcases List.mem_cons.mp h with h | h
  · rw [h]; exact tmp (i := 36) rfl rfl
  rcases List.mem_cons.mp h with h | h
  · rw [h]; exact tm1 (i := 9) rfl rfl
  rw [List.mem_singleton.mp h]; exact wc_X8_keeps
theorem wc_X8_allows : Cond.code yX8_allows cX8_allows 3 (some .boolean) ∈ lwA := tm4 (i := 224) rfl rfl
theorem wm_X8_allows {w : Cond} (h : w ∈ ([.instanceMethod yX8_allows, .selects (fcl 8).1 yX8_allows yX8_allows, .initialized (fcl 8).1, .code yX8_allows cX8_allows 3 (some .boolean)] : List Cond)) : w ∈ lwA := by
  rcases List.mem_cons.mp h with h | h
  · rw [h]; exact tm4 (i := 223) rfl rfl
  rcases List.mem_cons.mp h with h | h
  · rw [h]; exact tmp (i := 37) rfl rfl
  rcases List.mem_cons.mp h with h | h
  · rw [h]; exact tm1 (i := 9) rfl rfl
  rw [List.mem_singleton.mp h]; exact wc_X8_allows
theorem wc_X8_tries : Cond.code yX8_tries cX8_tries 9 (some .boolean) ∈ lwA := tm4 (i := 228) rfl rfl
theorem wm_X8_tries {w : Cond} (h : w ∈ ([.instanceMethod yX8_tries, .selects (fcl 8).1 yX8_tries yX8_tries, .initialized (fcl 8).1, .code yX8_tries cX8_tries 9 (some .boolean)] : List Cond)) : w ∈ lwA := by
  rcases List.mem_cons.mp h with h | h
  · rw [h]; exact tm4 (i := 227) rfl rfl
  rcases List.mem_cons.mp h with h | h
  · rw [h]; exact tmp (i := 38) rfl rfl
  rcases List.mem_cons.mp h with h | h
  · rw [h]; exact tm1 (i := 9) rfl rfl
  rw [List.mem_singleton.mp h]; exact wc_X8_tries
theorem wc_X8_isFree : Cond.code yX8_isFree cX8_isFree 6 (some .boolean) ∈ lwA := tm4 (i := 232) rfl rfl
theorem wm_X8_isFree {w : Cond} (h : w ∈ ([.instanceMethod yX8_isFree, .selects (fcl 8).1 yX8_isFree yX8_isFree, .initialized (fcl 8).1, .code yX8_isFree cX8_isFree 6 (some .boolean)] : List Cond)) : w ∈ lwA := by
  rcases List.mem_cons.mp h with h | h
  · rw [h]; exact tm4 (i := 231) rfl rfl
  rcases List.mem_cons.mp h with h | h
  · rw [h]; exact tmp (i := 39) rfl rfl
  rcases List.mem_cons.mp h with h | h
  · rw [h]; exact tm1 (i := 9) rfl rfl
  rw [List.mem_singleton.mp h]; exact wc_X8_isFree
theorem wc_X8_spirals : Cond.code yX8_spirals cX8_spirals 9 none ∈ lwA := tm4 (i := 236) rfl rfl
theorem wm_X8_spirals {w : Cond} (h : w ∈ ([.instanceMethod yX8_spirals, .selects (fcl 8).1 yX8_spirals yX8_spirals, .initialized (fcl 8).1, .code yX8_spirals cX8_spirals 9 none] : List Cond)) : w ∈ lwA := by
  rcases List.mem_cons.mp h with h | h
  · rw [h]; exact tm4 (i := 235) rfl rfl
  rcases List.mem_cons.mp h with h | h
  · rw [h]; exact tmp (i := 40) rfl rfl
  rcases List.mem_cons.mp h with h | h
  · rw [h]; exact tm1 (i := 9) rfl rfl
  rw [List.mem_singleton.mp h]; exact wc_X8_spirals
theorem wc_X8_leader : Cond.code yX8_leader cX8_leader 5 (some .int) ∈ lwA := tm5 (i := 0) rfl rfl
theorem wm_X8_leader {w : Cond} (h : w ∈ ([.instanceMethod yX8_leader, .selects (fcl 8).1 yX8_leader yX8_leader, .initialized (fcl 8).1, .code yX8_leader cX8_leader 5 (some .int)] : List Cond)) : w ∈ lwA := by
  rcases List.mem_cons.mp h with h | h
  · rw [h]; exact tm4 (i := 239) rfl rfl
  rcases List.mem_cons.mp h with h | h
  · rw [h]; exact tmp (i := 41) rfl rfl
  rcases List.mem_cons.mp h with h | h
  · rw [h]; exact tm1 (i := 9) rfl rfl
  rw [List.mem_singleton.mp h]; exact wc_X8_leader
theorem wc_X8_triesBoth : Cond.code yX8_triesBoth cX8_triesBoth 4 (some .boolean) ∈ lwA := tm5 (i := 4) rfl rfl
theorem wm_X8_triesBoth {w : Cond} (h : w ∈ ([.instanceMethod yX8_triesBoth, .selects (fcl 8).1 yX8_triesBoth yX8_triesBoth, .initialized (fcl 8).1, .code yX8_triesBoth cX8_triesBoth 4 (some .boolean)] : List Cond)) : w ∈ lwA := by
  rcases List.mem_cons.mp h with h | h
  · rw [h]; exact tm5 (i := 3) rfl rfl
  rcases List.mem_cons.mp h with h | h
  · rw [h]; exact tmp (i := 42) rfl rfl
  rcases List.mem_cons.mp h with h | h
  · rw [h]; exact tm1 (i := 9) rfl rfl
  rw [List.mem_singleton.mp h]; exact wc_X8_triesBoth
theorem wc_X8_takesOver : Cond.code yX8_takesOver cX8_takesOver 3 none ∈ lwA := tm5 (i := 8) rfl rfl
theorem wm_X8_takesOver {w : Cond} (h : w ∈ ([.instanceMethod yX8_takesOver, .selects (fcl 8).1 yX8_takesOver yX8_takesOver, .initialized (fcl 8).1, .code yX8_takesOver cX8_takesOver 3 none] : List Cond)) : w ∈ lwA := by
  rcases List.mem_cons.mp h with h | h
  · rw [h]; exact tm5 (i := 7) rfl rfl
  rcases List.mem_cons.mp h with h | h
  · rw [h]; exact tmp (i := 43) rfl rfl
  rcases List.mem_cons.mp h with h | h
  · rw [h]; exact tm1 (i := 9) rfl rfl
  rw [List.mem_singleton.mp h]; exact wc_X8_takesOver
theorem wc_X8_hasMoved : Cond.code yX8_hasMoved cX8_hasMoved 3 (some .boolean) ∈ lwA := tm5 (i := 12) rfl rfl
theorem wm_X8_hasMoved {w : Cond} (h : w ∈ ([.instanceMethod yX8_hasMoved, .selects (fcl 8).1 yX8_hasMoved yX8_hasMoved, .initialized (fcl 8).1, .code yX8_hasMoved cX8_hasMoved 3 (some .boolean)] : List Cond)) : w ∈ lwA := by
  rcases List.mem_cons.mp h with h | h
  · rw [h]; exact tm5 (i := 11) rfl rfl
  rcases List.mem_cons.mp h with h | h
  · rw [h]; exact tmp (i := 44) rfl rfl
  rcases List.mem_cons.mp h with h | h
  · rw [h]; exact tm1 (i := 9) rfl rfl
  rw [List.mem_singleton.mp h]; exact wc_X8_hasMoved
theorem wc_X8_place : Cond.code yX8_place cX8_place 3 (some .int) ∈ lwA := tm5 (i := 16) rfl rfl
theorem wm_X8_place {w : Cond} (h : w ∈ ([.instanceMethod yX8_place, .selects (fcl 8).1 yX8_place yX8_place, .initialized (fcl 8).1, .code yX8_place cX8_place 3 (some .int)] : List Cond)) : w ∈ lwA := by
  rcases List.mem_cons.mp h with h | h
  · rw [h]; exact tm5 (i := 14) rfl rfl
  rcases List.mem_cons.mp h with h | h
  · rw [h]; exact tm5 (i := 15) rfl rfl
  rcases List.mem_cons.mp h with h | h
  · rw [h]; exact tm1 (i := 9) rfl rfl
  rw [List.mem_singleton.mp h]; exact wc_X8_place
theorem wc_X8_wordAt : Cond.code yX8_wordAt cX8_wordAt 3 (some .int) ∈ lwA := tm5 (i := 20) rfl rfl
theorem wm_X8_wordAt {w : Cond} (h : w ∈ ([.instanceMethod yX8_wordAt, .selects (fcl 8).1 yX8_wordAt yX8_wordAt, .initialized (fcl 8).1, .code yX8_wordAt cX8_wordAt 3 (some .int)] : List Cond)) : w ∈ lwA := by
  rcases List.mem_cons.mp h with h | h
  · rw [h]; exact tm5 (i := 18) rfl rfl
  rcases List.mem_cons.mp h with h | h
  · rw [h]; exact tm5 (i := 19) rfl rfl
  rcases List.mem_cons.mp h with h | h
  · rw [h]; exact tm1 (i := 9) rfl rfl
  rw [List.mem_singleton.mp h]; exact wc_X8_wordAt
theorem wc_X8_coverer : Cond.code yX8_coverer cX8_coverer 4 (some .int) ∈ lwA := tm5 (i := 26) rfl rfl
theorem wm_X8_coverer {w : Cond} (h : w ∈ ([.instanceMethod yX8_coverer, .selects (fcl 8).1 yX8_coverer yX8_coverer, .initialized (fcl 8).1, .code yX8_coverer cX8_coverer 4 (some .int)] : List Cond)) : w ∈ lwA := by
  rcases List.mem_cons.mp h with h | h
  · rw [h]; exact tm5 (i := 25) rfl rfl
  rcases List.mem_cons.mp h with h | h
  · rw [h]; exact tmp (i := 45) rfl rfl
  rcases List.mem_cons.mp h with h | h
  · rw [h]; exact tm1 (i := 9) rfl rfl
  rw [List.mem_singleton.mp h]; exact wc_X8_coverer
theorem wc_X8_covers : Cond.code yX8_covers cX8_covers 5 (some .boolean) ∈ lwA := tm5 (i := 30) rfl rfl
theorem wm_X8_covers {w : Cond} (h : w ∈ ([.instanceMethod yX8_covers, .selects (fcl 8).1 yX8_covers yX8_covers, .initialized (fcl 8).1, .code yX8_covers cX8_covers 5 (some .boolean)] : List Cond)) : w ∈ lwA := by
  rcases List.mem_cons.mp h with h | h
  · rw [h]; exact tm5 (i := 29) rfl rfl
  rcases List.mem_cons.mp h with h | h
  · rw [h]; exact tmp (i := 46) rfl rfl
  rcases List.mem_cons.mp h with h | h
  · rw [h]; exact tm1 (i := 9) rfl rfl
  rw [List.mem_singleton.mp h]; exact wc_X8_covers
theorem wc_X8_meetings : Cond.code yX8_meetings cX8_meetings 4 (some .int) ∈ lwA := tm5 (i := 34) rfl rfl
theorem wm_X8_meetings {w : Cond} (h : w ∈ ([.instanceMethod yX8_meetings, .selects (fcl 8).1 yX8_meetings yX8_meetings, .initialized (fcl 8).1, .code yX8_meetings cX8_meetings 4 (some .int)] : List Cond)) : w ∈ lwA := by
  rcases List.mem_cons.mp h with h | h
  · rw [h]; exact tm5 (i := 32) rfl rfl
  rcases List.mem_cons.mp h with h | h
  · rw [h]; exact tm5 (i := 33) rfl rfl
  rcases List.mem_cons.mp h with h | h
  · rw [h]; exact tm1 (i := 9) rfl rfl
  rw [List.mem_singleton.mp h]; exact wc_X8_meetings
theorem wc_X8_meet : Cond.code yX8_meet cX8_meet 5 (some .boolean) ∈ lwA := tm5 (i := 38) rfl rfl
theorem wm_X8_meet {w : Cond} (h : w ∈ ([.instanceMethod yX8_meet, .selects (fcl 8).1 yX8_meet yX8_meet, .initialized (fcl 8).1, .code yX8_meet cX8_meet 5 (some .boolean)] : List Cond)) : w ∈ lwA := by
  rcases List.mem_cons.mp h with h | h
  · rw [h]; exact tm5 (i := 37) rfl rfl
  rcases List.mem_cons.mp h with h | h
  · rw [h]; exact tmp (i := 47) rfl rfl
  rcases List.mem_cons.mp h with h | h
  · rw [h]; exact tm1 (i := 9) rfl rfl
  rw [List.mem_singleton.mp h]; exact wc_X8_meet
theorem wc_X8_extent : Cond.code yX8_extent cX8_extent 2 (some .int) ∈ lwA := tm5 (i := 42) rfl rfl
theorem wm_X8_extent {w : Cond} (h : w ∈ ([.instanceMethod yX8_extent, .selects (fcl 8).1 yX8_extent yX8_extent, .initialized (fcl 8).1, .code yX8_extent cX8_extent 2 (some .int)] : List Cond)) : w ∈ lwA := by
  rcases List.mem_cons.mp h with h | h
  · rw [h]; exact tm5 (i := 40) rfl rfl
  rcases List.mem_cons.mp h with h | h
  · rw [h]; exact tm5 (i := 41) rfl rfl
  rcases List.mem_cons.mp h with h | h
  · rw [h]; exact tm1 (i := 9) rfl rfl
  rw [List.mem_singleton.mp h]; exact wc_X8_extent
theorem wc_X8_extentOf : Cond.code yX8_extentOf cX8_extentOf 7 (some .int) ∈ lwA := tm5 (i := 46) rfl rfl
theorem wm_X8_extentOf {w : Cond} (h : w ∈ ([.instanceMethod yX8_extentOf, .selects (fcl 8).1 yX8_extentOf yX8_extentOf, .initialized (fcl 8).1, .code yX8_extentOf cX8_extentOf 7 (some .int)] : List Cond)) : w ∈ lwA := by
  rcases List.mem_cons.mp h with h | h
  · rw [h]; exact tm5 (i := 45) rfl rfl
  rcases List.mem_cons.mp h with h | h
  · rw [h]; exact tmp (i := 48) rfl rfl
  rcases List.mem_cons.mp h with h | h
  · rw [h]; exact tm1 (i := 9) rfl rfl
  rw [List.mem_singleton.mp h]; exact wc_X8_extentOf
theorem wc_X8_coveredCells : Cond.code yX8_coveredCells cX8_coveredCells 3 (some .int) ∈ lwA := tm5 (i := 50) rfl rfl
theorem wm_X8_coveredCells {w : Cond} (h : w ∈ ([.instanceMethod yX8_coveredCells, .selects (fcl 8).1 yX8_coveredCells yX8_coveredCells, .initialized (fcl 8).1, .code yX8_coveredCells cX8_coveredCells 3 (some .int)] : List Cond)) : w ∈ lwA := by
  rcases List.mem_cons.mp h with h | h
  · rw [h]; exact tm5 (i := 49) rfl rfl
  rcases List.mem_cons.mp h with h | h
  · rw [h]; exact tmp (i := 49) rfl rfl
  rcases List.mem_cons.mp h with h | h
  · rw [h]; exact tm1 (i := 9) rfl rfl
  rw [List.mem_singleton.mp h]; exact wc_X8_coveredCells
theorem wc_X8_covered : Cond.code yX8_covered cX8_covered 1 (some .double) ∈ lwA := tm5 (i := 54) rfl rfl
theorem wm_X8_covered {w : Cond} (h : w ∈ ([.instanceMethod yX8_covered, .selects (fcl 8).1 yX8_covered yX8_covered, .initialized (fcl 8).1, .code yX8_covered cX8_covered 1 (some .double)] : List Cond)) : w ∈ lwA := by
  rcases List.mem_cons.mp h with h | h
  · rw [h]; exact tm5 (i := 52) rfl rfl
  rcases List.mem_cons.mp h with h | h
  · rw [h]; exact tm5 (i := 53) rfl rfl
  rcases List.mem_cons.mp h with h | h
  · rw [h]; exact tm1 (i := 9) rfl rfl
  rw [List.mem_singleton.mp h]; exact wc_X8_covered
theorem wc_X8_spread : Cond.code yX8_spread cX8_spread 9 (some .int) ∈ lwA := tm5 (i := 58) rfl rfl
theorem wm_X8_spread {w : Cond} (h : w ∈ ([.instanceMethod yX8_spread, .selects (fcl 8).1 yX8_spread yX8_spread, .initialized (fcl 8).1, .code yX8_spread cX8_spread 9 (some .int)] : List Cond)) : w ∈ lwA := by
  rcases List.mem_cons.mp h with h | h
  · rw [h]; exact tm5 (i := 56) rfl rfl
  rcases List.mem_cons.mp h with h | h
  · rw [h]; exact tm5 (i := 57) rfl rfl
  rcases List.mem_cons.mp h with h | h
  · rw [h]; exact tm1 (i := 9) rfl rfl
  rw [List.mem_singleton.mp h]; exact wc_X8_spread
theorem wc_X8_size : Cond.code yX8_size cX8_size 1 (some .int) ∈ lwA := tm5 (i := 61) rfl rfl
theorem wm_X8_size {w : Cond} (h : w ∈ ([.static yX8_size, .initialized yX8_size.cls, .code yX8_size cX8_size 1 (some .int)] : List Cond)) : w ∈ lwA := by
  rcases List.mem_cons.mp h with h | h
  · rw [h]; exact tm5 (i := 60) rfl rfl
  rcases List.mem_cons.mp h with h | h
  · rw [h]; exact tm1 (i := 9) rfl rfl
  rw [List.mem_singleton.mp h]; exact wc_X8_size
theorem wc_X8_placedOn : Cond.code yX8_placedOn cX8_placedOn 5 (some .int) ∈ lwA := tm5 (i := 65) rfl rfl
theorem wm_X8_placedOn {w : Cond} (h : w ∈ ([.instanceMethod yX8_placedOn, .selects (fcl 8).1 yX8_placedOn yX8_placedOn, .initialized (fcl 8).1, .code yX8_placedOn cX8_placedOn 5 (some .int)] : List Cond)) : w ∈ lwA := by
  rcases List.mem_cons.mp h with h | h
  · rw [h]; exact tm5 (i := 63) rfl rfl
  rcases List.mem_cons.mp h with h | h
  · rw [h]; exact tm5 (i := 64) rfl rfl
  rcases List.mem_cons.mp h with h | h
  · rw [h]; exact tm1 (i := 9) rfl rfl
  rw [List.mem_singleton.mp h]; exact wc_X8_placedOn
theorem wc_X8_lays : Cond.code yX8_lays cX8_lays 2 none ∈ lwA := tm5 (i := 69) rfl rfl
theorem wm_X8_lays {w : Cond} (h : w ∈ ([.instanceMethod yX8_lays, .selects (fcl 8).1 yX8_lays yX8_lays, .initialized (fcl 8).1, .code yX8_lays cX8_lays 2 none] : List Cond)) : w ∈ lwA := by
  rcases List.mem_cons.mp h with h | h
  · rw [h]; exact tm5 (i := 68) rfl rfl
  rcases List.mem_cons.mp h with h | h
  · rw [h]; exact tmp (i := 50) rfl rfl
  rcases List.mem_cons.mp h with h | h
  · rw [h]; exact tm1 (i := 9) rfl rfl
  rw [List.mem_singleton.mp h]; exact wc_X8_lays
theorem wc_X8_takesBack : Cond.code yX8_takesBack cX8_takesBack 2 none ∈ lwA := tm5 (i := 73) rfl rfl
theorem wm_X8_takesBack {w : Cond} (h : w ∈ ([.instanceMethod yX8_takesBack, .selects (fcl 8).1 yX8_takesBack yX8_takesBack, .initialized (fcl 8).1, .code yX8_takesBack cX8_takesBack 2 none] : List Cond)) : w ∈ lwA := by
  rcases List.mem_cons.mp h with h | h
  · rw [h]; exact tm5 (i := 72) rfl rfl
  rcases List.mem_cons.mp h with h | h
  · rw [h]; exact tmp (i := 51) rfl rfl
  rcases List.mem_cons.mp h with h | h
  · rw [h]; exact tm1 (i := 9) rfl rfl
  rw [List.mem_singleton.mp h]; exact wc_X8_takesBack
theorem wc_X8_narrowest : Cond.code yX8_narrowest cX8_narrowest 3 (some .int) ∈ lwA := tm5 (i := 77) rfl rfl
theorem wm_X8_narrowest {w : Cond} (h : w ∈ ([.instanceMethod yX8_narrowest, .selects (fcl 8).1 yX8_narrowest yX8_narrowest, .initialized (fcl 8).1, .code yX8_narrowest cX8_narrowest 3 (some .int)] : List Cond)) : w ∈ lwA := by
  rcases List.mem_cons.mp h with h | h
  · rw [h]; exact tm5 (i := 75) rfl rfl
  rcases List.mem_cons.mp h with h | h
  · rw [h]; exact tm5 (i := 76) rfl rfl
  rcases List.mem_cons.mp h with h | h
  · rw [h]; exact tm1 (i := 9) rfl rfl
  rw [List.mem_singleton.mp h]; exact wc_X8_narrowest
theorem wc_X8_movedBy : Cond.code yX8_movedBy cX8_movedBy 5 (some .int) ∈ lwA := tm5 (i := 81) rfl rfl
theorem wm_X8_movedBy {w : Cond} (h : w ∈ ([.instanceMethod yX8_movedBy, .selects (fcl 8).1 yX8_movedBy yX8_movedBy, .initialized (fcl 8).1, .code yX8_movedBy cX8_movedBy 5 (some .int)] : List Cond)) : w ∈ lwA := by
  rcases List.mem_cons.mp h with h | h
  · rw [h]; exact tm5 (i := 79) rfl rfl
  rcases List.mem_cons.mp h with h | h
  · rw [h]; exact tm5 (i := 80) rfl rfl
  rcases List.mem_cons.mp h with h | h
  · rw [h]; exact tm1 (i := 9) rfl rfl
  rw [List.mem_singleton.mp h]; exact wc_X8_movedBy
theorem wc_X8_bestStride : Cond.code yX8_bestStride cX8_bestStride 5 (some .int) ∈ lwA := tm5 (i := 85) rfl rfl
theorem wm_X8_bestStride {w : Cond} (h : w ∈ ([.instanceMethod yX8_bestStride, .selects (fcl 8).1 yX8_bestStride yX8_bestStride, .initialized (fcl 8).1, .code yX8_bestStride cX8_bestStride 5 (some .int)] : List Cond)) : w ∈ lwA := by
  rcases List.mem_cons.mp h with h | h
  · rw [h]; exact tm5 (i := 83) rfl rfl
  rcases List.mem_cons.mp h with h | h
  · rw [h]; exact tm5 (i := 84) rfl rfl
  rcases List.mem_cons.mp h with h | h
  · rw [h]; exact tm1 (i := 9) rfl rfl
  rw [List.mem_singleton.mp h]; exact wc_X8_bestStride
theorem wc_X8_append : Cond.code yX8_append cX8_append 2 (some .int) ∈ lwA := tm5 (i := 89) rfl rfl
theorem wm_X8_append {w : Cond} (h : w ∈ ([.instanceMethod yX8_append, .selects (fcl 8).1 yX8_append yX8_append, .initialized (fcl 8).1, .code yX8_append cX8_append 2 (some .int)] : List Cond)) : w ∈ lwA := by
  rcases List.mem_cons.mp h with h | h
  · rw [h]; exact tm5 (i := 87) rfl rfl
  rcases List.mem_cons.mp h with h | h
  · rw [h]; exact tm5 (i := 88) rfl rfl
  rcases List.mem_cons.mp h with h | h
  · rw [h]; exact tm1 (i := 9) rfl rfl
  rw [List.mem_singleton.mp h]; exact wc_X8_append
theorem wc_X8_clearText : Cond.code yX8_clearText cX8_clearText 2 (some .int) ∈ lwA := tm5 (i := 94) rfl rfl
theorem wm_X8_clearText {w : Cond} (h : w ∈ ([.instanceMethod yX8_clearText, .selects (fcl 8).1 yX8_clearText yX8_clearText, .initialized (fcl 8).1, .code yX8_clearText cX8_clearText 2 (some .int)] : List Cond)) : w ∈ lwA := by
  rcases List.mem_cons.mp h with h | h
  · rw [h]; exact tm5 (i := 92) rfl rfl
  rcases List.mem_cons.mp h with h | h
  · rw [h]; exact tm5 (i := 93) rfl rfl
  rcases List.mem_cons.mp h with h | h
  · rw [h]; exact tm1 (i := 9) rfl rfl
  rw [List.mem_singleton.mp h]; exact wc_X8_clearText
theorem wc_X8_parse : Cond.code yX8_parse cX8_parse 3 (some .int) ∈ lwA := tm5 (i := 98) rfl rfl
theorem wm_X8_parse {w : Cond} (h : w ∈ ([.instanceMethod yX8_parse, .selects (fcl 8).1 yX8_parse yX8_parse, .initialized (fcl 8).1, .code yX8_parse cX8_parse 3 (some .int)] : List Cond)) : w ∈ lwA := by
  rcases List.mem_cons.mp h with h | h
  · rw [h]; exact tm5 (i := 96) rfl rfl
  rcases List.mem_cons.mp h with h | h
  · rw [h]; exact tm5 (i := 97) rfl rfl
  rcases List.mem_cons.mp h with h | h
  · rw [h]; exact tm1 (i := 9) rfl rfl
  rw [List.mem_singleton.mp h]; exact wc_X8_parse
theorem wc_X8_readsItem : Cond.code yX8_readsItem cX8_readsItem 2 (some .boolean) ∈ lwA := tm5 (i := 102) rfl rfl
theorem wm_X8_readsItem {w : Cond} (h : w ∈ ([.instanceMethod yX8_readsItem, .selects (fcl 8).1 yX8_readsItem yX8_readsItem, .initialized (fcl 8).1, .code yX8_readsItem cX8_readsItem 2 (some .boolean)] : List Cond)) : w ∈ lwA := by
  rcases List.mem_cons.mp h with h | h
  · rw [h]; exact tm5 (i := 101) rfl rfl
  rcases List.mem_cons.mp h with h | h
  · rw [h]; exact tmp (i := 52) rfl rfl
  rcases List.mem_cons.mp h with h | h
  · rw [h]; exact tm1 (i := 9) rfl rfl
  rw [List.mem_singleton.mp h]; exact wc_X8_readsItem
theorem wc_X8_readsWord : Cond.code yX8_readsWord cX8_readsWord 6 (some .boolean) ∈ lwA := tm5 (i := 106) rfl rfl
theorem wm_X8_readsWord {w : Cond} (h : w ∈ ([.instanceMethod yX8_readsWord, .selects (fcl 8).1 yX8_readsWord yX8_readsWord, .initialized (fcl 8).1, .code yX8_readsWord cX8_readsWord 6 (some .boolean)] : List Cond)) : w ∈ lwA := by
  rcases List.mem_cons.mp h with h | h
  · rw [h]; exact tm5 (i := 105) rfl rfl
  rcases List.mem_cons.mp h with h | h
  · rw [h]; exact tmp (i := 53) rfl rfl
  rcases List.mem_cons.mp h with h | h
  · rw [h]; exact tm1 (i := 9) rfl rfl
  rw [List.mem_singleton.mp h]; exact wc_X8_readsWord
theorem wc_X8_here : Cond.code yX8_here cX8_here 1 (some .int) ∈ lwA := tm5 (i := 110) rfl rfl
theorem wm_X8_here {w : Cond} (h : w ∈ ([.instanceMethod yX8_here, .selects (fcl 8).1 yX8_here yX8_here, .initialized (fcl 8).1, .code yX8_here cX8_here 1 (some .int)] : List Cond)) : w ∈ lwA := by
  rcases List.mem_cons.mp h with h | h
  · rw [h]; exact tm5 (i := 109) rfl rfl
  rcases List.mem_cons.mp h with h | h
  · rw [h]; exact tmp (i := 54) rfl rfl
  rcases List.mem_cons.mp h with h | h
  · rw [h]; exact tm1 (i := 9) rfl rfl
  rw [List.mem_singleton.mp h]; exact wc_X8_here
theorem wc_X8_areOne : Cond.code yX8_areOne cX8_areOne 8 (some .boolean) ∈ lwA := tm5 (i := 116) rfl rfl
theorem wm_X8_areOne {w : Cond} (h : w ∈ ([.instanceMethod yX8_areOne, .selects (fcl 8).1 yX8_areOne yX8_areOne, .initialized (fcl 8).1, .code yX8_areOne cX8_areOne 8 (some .boolean)] : List Cond)) : w ∈ lwA := by
  rcases List.mem_cons.mp h with h | h
  · rw [h]; exact tm5 (i := 115) rfl rfl
  rcases List.mem_cons.mp h with h | h
  · rw [h]; exact tmp (i := 55) rfl rfl
  rcases List.mem_cons.mp h with h | h
  · rw [h]; exact tm1 (i := 9) rfl rfl
  rw [List.mem_singleton.mp h]; exact wc_X8_areOne
theorem wc_X8_readsWeight : Cond.code yX8_readsWeight cX8_readsWeight 4 (some .boolean) ∈ lwA := tm5 (i := 120) rfl rfl
theorem wm_X8_readsWeight {w : Cond} (h : w ∈ ([.instanceMethod yX8_readsWeight, .selects (fcl 8).1 yX8_readsWeight yX8_readsWeight, .initialized (fcl 8).1, .code yX8_readsWeight cX8_readsWeight 4 (some .boolean)] : List Cond)) : w ∈ lwA := by
  rcases List.mem_cons.mp h with h | h
  · rw [h]; exact tm5 (i := 119) rfl rfl
  rcases List.mem_cons.mp h with h | h
  · rw [h]; exact tmp (i := 56) rfl rfl
  rcases List.mem_cons.mp h with h | h
  · rw [h]; exact tm1 (i := 9) rfl rfl
  rw [List.mem_singleton.mp h]; exact wc_X8_readsWeight
theorem wc_X8_passesByte : Cond.code yX8_passesByte cX8_passesByte 3 (some .boolean) ∈ lwA := tm5 (i := 126) rfl rfl
theorem wm_X8_passesByte {w : Cond} (h : w ∈ ([.instanceMethod yX8_passesByte, .selects (fcl 8).1 yX8_passesByte yX8_passesByte, .initialized (fcl 8).1, .code yX8_passesByte cX8_passesByte 3 (some .boolean)] : List Cond)) : w ∈ lwA := by
  rcases List.mem_cons.mp h with h | h
  · rw [h]; exact tm5 (i := 125) rfl rfl
  rcases List.mem_cons.mp h with h | h
  · rw [h]; exact tmp (i := 57) rfl rfl
  rcases List.mem_cons.mp h with h | h
  · rw [h]; exact tm1 (i := 9) rfl rfl
  rw [List.mem_singleton.mp h]; exact wc_X8_passesByte
theorem wc_X8_readsFigure : Cond.code yX8_readsFigure cX8_readsFigure 4 (some .boolean) ∈ lwA := tm5 (i := 130) rfl rfl
theorem wm_X8_readsFigure {w : Cond} (h : w ∈ ([.instanceMethod yX8_readsFigure, .selects (fcl 8).1 yX8_readsFigure yX8_readsFigure, .initialized (fcl 8).1, .code yX8_readsFigure cX8_readsFigure 4 (some .boolean)] : List Cond)) : w ∈ lwA := by
  rcases List.mem_cons.mp h with h | h
  · rw [h]; exact tm5 (i := 129) rfl rfl
  rcases List.mem_cons.mp h with h | h
  · rw [h]; exact tmp (i := 58) rfl rfl
  rcases List.mem_cons.mp h with h | h
  · rw [h]; exact tm1 (i := 9) rfl rfl
  rw [List.mem_singleton.mp h]; exact wc_X8_readsFigure
theorem wc_X8_findsPlaces : Cond.code yX8_findsPlaces cX8_findsPlaces 5 none ∈ lwA := tm5 (i := 134) rfl rfl
theorem wm_X8_findsPlaces {w : Cond} (h : w ∈ ([.instanceMethod yX8_findsPlaces, .selects (fcl 8).1 yX8_findsPlaces yX8_findsPlaces, .initialized (fcl 8).1, .code yX8_findsPlaces cX8_findsPlaces 5 none] : List Cond)) : w ∈ lwA := by
  rcases List.mem_cons.mp h with h | h
  · rw [h]; exact tm5 (i := 133) rfl rfl
  rcases List.mem_cons.mp h with h | h
  · rw [h]; exact tmp (i := 59) rfl rfl
  rcases List.mem_cons.mp h with h | h
  · rw [h]; exact tm1 (i := 9) rfl rfl
  rw [List.mem_singleton.mp h]; exact wc_X8_findsPlaces
theorem wc_X8_undo : Cond.code yX8_undo cX8_undo 2 (some .int) ∈ lwA := tm5 (i := 138) rfl rfl
theorem wm_X8_undo {w : Cond} (h : w ∈ ([.instanceMethod yX8_undo, .selects (fcl 8).1 yX8_undo yX8_undo, .initialized (fcl 8).1, .code yX8_undo cX8_undo 2 (some .int)] : List Cond)) : w ∈ lwA := by
  rcases List.mem_cons.mp h with h | h
  · rw [h]; exact tm5 (i := 136) rfl rfl
  rcases List.mem_cons.mp h with h | h
  · rw [h]; exact tm5 (i := 137) rfl rfl
  rcases List.mem_cons.mp h with h | h
  · rw [h]; exact tm1 (i := 9) rfl rfl
  rw [List.mem_singleton.mp h]; exact wc_X8_undo
theorem wc_X8_digest : Cond.code yX8_digest cX8_digest 4 (some .long) ∈ lwA := tm5 (i := 142) rfl rfl
theorem wm_X8_digest {w : Cond} (h : w ∈ ([.instanceMethod yX8_digest, .selects (fcl 8).1 yX8_digest yX8_digest, .initialized (fcl 8).1, .code yX8_digest cX8_digest 4 (some .long)] : List Cond)) : w ∈ lwA := by
  rcases List.mem_cons.mp h with h | h
  · rw [h]; exact tm5 (i := 140) rfl rfl
  rcases List.mem_cons.mp h with h | h
  · rw [h]; exact tm5 (i := 141) rfl rfl
  rcases List.mem_cons.mp h with h | h
  · rw [h]; exact tm1 (i := 9) rfl rfl
  rw [List.mem_singleton.mp h]; exact wc_X8_digest
theorem wc_X8_sums : Cond.code yX8_sums cX8_sums 4 (some .long) ∈ lwA := tm5 (i := 146) rfl rfl
theorem wm_X8_sums {w : Cond} (h : w ∈ ([.static yX8_sums, .initialized yX8_sums.cls, .code yX8_sums cX8_sums 4 (some .long)] : List Cond)) : w ∈ lwA := by
  rcases List.mem_cons.mp h with h | h
  · rw [h]; exact tm5 (i := 145) rfl rfl
  rcases List.mem_cons.mp h with h | h
  · rw [h]; exact tm1 (i := 9) rfl rfl
  rw [List.mem_singleton.mp h]; exact wc_X8_sums
theorem wc_X8_withWord : Cond.code yX8_withWord cX8_withWord 7 (some .long) ∈ lwA := tm5 (i := 151) rfl rfl
theorem wm_X8_withWord {w : Cond} (h : w ∈ ([.instanceMethod yX8_withWord, .selects (fcl 8).1 yX8_withWord yX8_withWord, .initialized (fcl 8).1, .code yX8_withWord cX8_withWord 7 (some .long)] : List Cond)) : w ∈ lwA := by
  rcases List.mem_cons.mp h with h | h
  · rw [h]; exact tm5 (i := 150) rfl rfl
  rcases List.mem_cons.mp h with h | h
  · rw [h]; exact tmp (i := 60) rfl rfl
  rcases List.mem_cons.mp h with h | h
  · rw [h]; exact tm1 (i := 9) rfl rfl
  rw [List.mem_singleton.mp h]; exact wc_X8_withWord
theorem wl_L_81 : Cond.methodLink RL 81 yX7_clearText ∈ lwA := tm2 (i := 29) rfl rfl
theorem wl_L_85 : Cond.methodLink RL 85 yX7_parse ∈ lwA := tm2 (i := 33) rfl rfl
theorem wl_X7_63 : Cond.methodLink RX7 63 yX6_readInto ∈ lwA := tm2 (i := 37) rfl rfl
theorem wl_X6_30 : Cond.methodLink RX6 30 yX6_readWord ∈ lwA := tm2 (i := 41) rfl rfl
theorem wl_X6_38 : Cond.methodLink RX6 38 yX6_readLetters ∈ lwA := tm2 (i := 45) rfl rfl
theorem wl_X6_63 : Cond.methodLink RX6 63 yX6_isBetween ∈ lwA := tm2 (i := 49) rfl rfl
theorem wl_X6_70 : Cond.methodLink RX6 70 yX1_numberOf ∈ lwA := tm2 (i := 53) rfl rfl
theorem wl_X1_48 : Cond.methodLink RX1 48 yX2_hasSameLetters ∈ lwA := tm2 (i := 57) rfl rfl
theorem wl_X6_42 : Cond.methodLink RX6 42 yX6_readWeight ∈ lwA := tm2 (i := 61) rfl rfl
theorem wl_X6_58 : Cond.methodLink RX6 58 yX6_readSign ∈ lwA := tm2 (i := 65) rfl rfl
theorem wl_X6_46 : Cond.methodLink RX6 46 yX6_readDigit ∈ lwA := tm2 (i := 69) rfl rfl
theorem wl_X7_67 : Cond.methodLink RX7 67 yX1_copySettings ∈ lwA := tm2 (i := 73) rfl rfl
theorem wl_X7_78 : Cond.methodLink RX7 78 yX7_giveFormerPlace ∈ lwA := tm2 (i := 77) rfl rfl
theorem wl_X7_246 : Cond.methodLink RX7 246 yX1_numberOf ∈ lwA := tm2 (i := 81) rfl rfl
theorem wl_X7_249 : Cond.methodLink RX7 249 yX0_copyFrom ∈ lwA := tm2 (i := 82) rfl rfl
theorem wl_X7_82 : Cond.methodLink RX7 82 yX3_save ∈ lwA := tm2 (i := 86) rfl rfl
theorem wl_X3_22 : Cond.methodLink RX3 22 yX3_dropOldest ∈ lwA := tm2 (i := 90) rfl rfl
theorem wl_X3_25 : Cond.methodLink RX3 25 yX1_copyFrom ∈ lwA := tm2 (i := 94) rfl rfl
theorem wl_X1_31 : Cond.methodLink RX1 31 yX1_copySettings ∈ lwA := tm2 (i := 98) rfl rfl
theorem wl_X1_38 : Cond.methodLink RX1 38 yX2_copyFrom ∈ lwA := tm2 (i := 99) rfl rfl
theorem wl_X2_26 : Cond.methodLink RX2 26 yX0_copyFrom ∈ lwA := tm2 (i := 103) rfl rfl
theorem wl_X7_85 : Cond.methodLink RX7 85 yX1_copyFrom ∈ lwA := tm2 (i := 104) rfl rfl
theorem wl_L_115 : Cond.methodLink RL 115 yX7_lay ∈ lwA := tm2 (i := 105) rfl rfl
theorem wl_X7_144 : Cond.methodLink RX7 144 yX4_layAll ∈ lwA := tm2 (i := 109) rfl rfl
theorem wl_X4_32 : Cond.methodLink RX4 32 yX4_begin ∈ lwA := tm2 (i := 113) rfl rfl
theorem wl_X4_56 : Cond.methodLink RX4 56 yX1_rankOf ∈ lwA := tm2 (i := 117) rfl rfl
theorem wl_X4_42 : Cond.methodLink RX4 42 yX4_layWord ∈ lwA := tm2 (i := 121) rfl rfl
theorem wl_X4_69 : Cond.methodLink RX4 69 yX1_sizeOf ∈ lwA := tm2 (i := 125) rfl rfl
theorem wl_X1_65 : Cond.methodLink RX1 65 yJ9_min_7cf53 ∈ lwA := tm2 (i := 129) rfl rfl
theorem wl_X1_71 : Cond.methodLink RX1 71 yJ9_max_7cf53 ∈ lwA := tm2 (i := 132) rfl rfl
theorem wl_X4_73 : Cond.methodLink RX4 73 yX4_canStay ∈ lwA := tm2 (i := 135) rfl rfl
theorem wl_X4_91 : Cond.methodLink RX4 91 yX2_allows ∈ lwA := tm2 (i := 139) rfl rfl
theorem wl_X4_95 : Cond.methodLink RX4 95 yX4_measure ∈ lwA := tm2 (i := 143) rfl rfl
theorem wl_X4_99 : Cond.methodLink RX4 99 yX0_pointColumn ∈ lwA := tm2 (i := 147) rfl rfl
theorem wl_X4_103 : Cond.methodLink RX4 103 yX0_pointRow ∈ lwA := tm2 (i := 151) rfl rfl
theorem wl_X4_106 : Cond.methodLink RX4 106 yX0_standAround ∈ lwA := tm2 (i := 155) rfl rfl
theorem wl_X4_110 : Cond.methodLink RX4 110 yX4_isPossible ∈ lwA := tm2 (i := 159) rfl rfl
theorem wl_X4_158 : Cond.methodLink RX4 158 yX0_right ∈ lwA := tm2 (i := 163) rfl rfl
theorem wl_X4_164 : Cond.methodLink RX4 164 yX0_bottom ∈ lwA := tm2 (i := 167) rfl rfl
theorem wl_X4_173 : Cond.methodLink RX4 173 yX0_isApart ∈ lwA := tm2 (i := 171) rfl rfl
theorem wl_X4_77 : Cond.methodLink RX4 77 yX4_findOnSpiral ∈ lwA := tm2 (i := 175) rfl rfl
theorem wl_X4_117 : Cond.methodLink RX4 117 yX4_beginSpiral ∈ lwA := tm2 (i := 179) rfl rfl
theorem wl_X4_131 : Cond.methodLink RX4 131 yX5_begin ∈ lwA := tm2 (i := 183) rfl rfl
theorem wl_X4_121 : Cond.methodLink RX4 121 yX4_standsAtPoint ∈ lwA := tm2 (i := 187) rfl rfl
theorem wl_X4_125 : Cond.methodLink RX4 125 yX5_goOn ∈ lwA := tm2 (i := 191) rfl rfl
theorem wl_X5_32 : Cond.methodLink RX5 32 yX5_turn ∈ lwA := tm2 (i := 195) rfl rfl
theorem wl_X4_80 : Cond.methodLink RX4 80 yX0_hasSameCells ∈ lwA := tm2 (i := 199) rfl rfl
theorem wl_X4_84 : Cond.methodLink RX4 84 yX0_copyFrom ∈ lwA := tm2 (i := 203) rfl rfl
theorem wl_L_126 : Cond.methodLink RL 126 yX7_meetings ∈ lwA := tm2 (i := 204) rfl rfl
theorem wl_X7_180 : Cond.methodLink RX7 180 yX0_meets ∈ lwA := tm2 (i := 208) rfl rfl
theorem wl_X0_36 : Cond.methodLink RX0 36 yX0_isApart ∈ lwA := tm2 (i := 212) rfl rfl
theorem wl_L_133 : Cond.methodLink RL 133 yX7_covered ∈ lwA := tm2 (i := 213) rfl rfl
theorem wl_X7_184 : Cond.methodLink RX7 184 yX7_countCoveredCells ∈ lwA := tm2 (i := 217) rfl rfl
theorem wl_X7_252 : Cond.methodLink RX7 252 yX7_countCoveredCellsIn ∈ lwA := tm2 (i := 221) rfl rfl
theorem wl_X7_255 : Cond.methodLink RX7 255 yX7_clearLine ∈ lwA := tm2 (i := 225) rfl rfl
theorem wl_X7_177 : Cond.methodLink RX7 177 yX0_hasRow ∈ lwA := tm2 (i := 229) rfl rfl
theorem wl_X0_33 : Cond.methodLink RX0 33 yX0_bottom ∈ lwA := tm2 (i := 233) rfl rfl
theorem wl_X7_258 : Cond.methodLink RX7 258 yX7_markLine ∈ lwA := tm2 (i := 234) rfl rfl
theorem wl_X7_202 : Cond.methodLink RX7 202 yJ9_max_7cf53 ∈ lwA := tm2 (i := 238) rfl rfl
theorem wl_X7_261 : Cond.methodLink RX7 261 yX0_right ∈ lwA := tm2 (i := 239) rfl rfl
theorem wl_L_145 : Cond.methodLink RL 145 yX7_narrowest ∈ lwA := tm3 (i := 0) rfl rfl
theorem wl_X7_208 : Cond.methodLink RX7 208 yX4_canLayEveryWord ∈ lwA := tm3 (i := 4) rfl rfl
theorem wl_L_152 : Cond.methodLink RL 152 yX7_bestStride ∈ lwA := tm3 (i := 8) rfl rfl
theorem wl_L_160 : Cond.methodLink RL 160 yX7_digest ∈ lwA := tm3 (i := 12) rfl rfl
theorem wl_X7_220 : Cond.methodLink RX7 220 yX7_hashed ∈ lwA := tm3 (i := 17) rfl rfl
theorem wl_X7_224 : Cond.methodLink RX7 224 yX7_value ∈ lwA := tm3 (i := 21) rfl rfl
theorem wl_X7_44 : Cond.methodLink RX7 44 yX7_requireArgument ∈ lwA := tm3 (i := 25) rfl rfl
theorem wl_X7_137 : Cond.methodLink RX7 137 yX1_countPlaces ∈ lwA := tm3 (i := 96) rfl rfl
theorem wl_X7_227 : Cond.methodLink RX7 227 yX7_hashedWord ∈ lwA := tm3 (i := 100) rfl rfl
theorem wl_X7_272 : Cond.methodLink RX7 272 yX7_word ∈ lwA := tm3 (i := 104) rfl rfl
theorem wl_X7_88 : Cond.methodLink RX7 88 yX7_requireWord ∈ lwA := tm3 (i := 108) rfl rfl
theorem wl_X7_129 : Cond.methodLink RX7 129 yX7_requireIndex ∈ lwA := tm3 (i := 112) rfl rfl
theorem wl_X7_121 : Cond.methodLink RX7 121 yX1_rankOf ∈ lwA := tm3 (i := 131) rfl rfl
theorem wl_X7_125 : Cond.methodLink RX7 125 yX1_sizeOf ∈ lwA := tm3 (i := 132) rfl rfl
theorem wl_X7_275 : Cond.methodLink RX7 275 yX7_letter ∈ lwA := tm3 (i := 133) rfl rfl
theorem wl_X7_278 : Cond.methodLink RX7 278 yX7_place ∈ lwA := tm3 (i := 137) rfl rfl
theorem wl_X7_230 : Cond.methodLink RX7 230 yX7_meetings ∈ lwA := tm3 (i := 141) rfl rfl
theorem wl_X7_233 : Cond.methodLink RX7 233 yX7_extent ∈ lwA := tm3 (i := 142) rfl rfl
theorem wl_X7_187 : Cond.methodLink RX7 187 yX7_sideOf ∈ lwA := tm3 (i := 146) rfl rfl
theorem wl_X7_264 : Cond.methodLink RX7 264 yX0_bottom ∈ lwA := tm3 (i := 149) rfl rfl
theorem wl_X7_191 : Cond.methodLink RX7 191 yX7_outerOf ∈ lwA := tm3 (i := 150) rfl rfl
theorem wl_X7_267 : Cond.methodLink RX7 267 yJ9_min_7cf53 ∈ lwA := tm3 (i := 153) rfl rfl
theorem wl_L_72 : Cond.methodLink RL 72 yL_append ∈ lwA := tm3 (i := 154) rfl rfl
theorem wl_L_7 : Cond.methodLink RL 7 yX7_append ∈ lwA := tm3 (i := 159) rfl rfl
theorem wl_X7_59 : Cond.methodLink RX7 59 yX6_add ∈ lwA := tm3 (i := 179) rfl rfl
theorem wl_L_89 : Cond.methodLink RL 89 yL_setWeight ∈ lwA := tm3 (i := 183) rfl rfl
theorem wl_L_17 : Cond.methodLink RL 17 yX7_setWeight ∈ lwA := tm3 (i := 187) rfl rfl
theorem wl_L_93 : Cond.methodLink RL 93 yL_setKind ∈ lwA := tm3 (i := 191) rfl rfl
theorem wl_L_23 : Cond.methodLink RL 23 yX7_setKind ∈ lwA := tm3 (i := 194) rfl rfl
theorem wl_L_97 : Cond.methodLink RL 97 yL_remove ∈ lwA := tm3 (i := 198) rfl rfl
theorem wl_L_27 : Cond.methodLink RL 27 yX7_remove ∈ lwA := tm3 (i := 201) rfl rfl
theorem wl_X7_102 : Cond.methodLink RX7 102 yX1_takeOut ∈ lwA := tm3 (i := 205) rfl rfl
theorem wl_L_100 : Cond.methodLink RL 100 yL_setCanvas ∈ lwA := tm3 (i := 209) rfl rfl
theorem wl_L_30 : Cond.methodLink RL 30 yX7_setCanvas ∈ lwA := tm3 (i := 212) rfl rfl
theorem wl_L_103 : Cond.methodLink RL 103 yL_setWays ∈ lwA := tm3 (i := 216) rfl rfl
theorem wl_L_33 : Cond.methodLink RL 33 yX7_setWays ∈ lwA := tm3 (i := 219) rfl rfl
theorem wl_L_106 : Cond.methodLink RL 106 yL_word ∈ lwA := tm3 (i := 223) rfl rfl
theorem wl_L_36 : Cond.methodLink RL 36 yX7_word ∈ lwA := tm3 (i := 226) rfl rfl
theorem wl_L_109 : Cond.methodLink RL 109 yL_letter ∈ lwA := tm3 (i := 227) rfl rfl
theorem wl_L_39 : Cond.methodLink RL 39 yX7_letter ∈ lwA := tm3 (i := 230) rfl rfl
theorem wl_L_112 : Cond.methodLink RL 112 yL_value ∈ lwA := tm3 (i := 231) rfl rfl
theorem wl_L_42 : Cond.methodLink RL 42 yX7_value ∈ lwA := tm3 (i := 234) rfl rfl
theorem wl_L_120 : Cond.methodLink RL 120 yL_place ∈ lwA := tm3 (i := 235) rfl rfl
theorem wl_L_45 : Cond.methodLink RL 45 yX7_place ∈ lwA := tm3 (i := 238) rfl rfl
theorem wl_L_123 : Cond.methodLink RL 123 yL_wordAt ∈ lwA := tm3 (i := 239) rfl rfl
theorem wl_L_48 : Cond.methodLink RL 48 yX7_wordAt ∈ lwA := tm4 (i := 2) rfl rfl
theorem wl_X7_173 : Cond.methodLink RX7 173 yX0_hasColumn ∈ lwA := tm4 (i := 6) rfl rfl
theorem wl_X0_29 : Cond.methodLink RX0 29 yX0_right ∈ lwA := tm4 (i := 10) rfl rfl
theorem wl_L_130 : Cond.methodLink RL 130 yL_extent ∈ lwA := tm4 (i := 11) rfl rfl
theorem wl_L_51 : Cond.methodLink RL 51 yX7_extent ∈ lwA := tm4 (i := 14) rfl rfl
theorem wl_L_138 : Cond.methodLink RL 138 yL_spread ∈ lwA := tm4 (i := 15) rfl rfl
theorem wl_L_54 : Cond.methodLink RL 54 yX7_spread ∈ lwA := tm4 (i := 18) rfl rfl
theorem wl_X7_195 : Cond.methodLink RX7 195 yX2_standsIn ∈ lwA := tm4 (i := 22) rfl rfl
theorem wl_X7_198 : Cond.methodLink RX7 198 yX0_distanceTo ∈ lwA := tm4 (i := 26) rfl rfl
theorem wl_X0_40 : Cond.methodLink RX0 40 yX0_pointColumn ∈ lwA := tm4 (i := 30) rfl rfl
theorem wl_X0_43 : Cond.methodLink RX0 43 yJ9_abs_0f7a4 ∈ lwA := tm4 (i := 31) rfl rfl
theorem wl_X0_49 : Cond.methodLink RX0 49 yX0_pointRow ∈ lwA := tm4 (i := 34) rfl rfl
theorem wl_L_141 : Cond.methodLink RL 141 yL_placedOn ∈ lwA := tm4 (i := 35) rfl rfl
theorem wl_L_57 : Cond.methodLink RL 57 yX7_placedOn ∈ lwA := tm4 (i := 38) rfl rfl
theorem wl_L_149 : Cond.methodLink RL 149 yL_movedBy ∈ lwA := tm4 (i := 42) rfl rfl
theorem wl_L_61 : Cond.methodLink RL 61 yX7_movedBy ∈ lwA := tm4 (i := 45) rfl rfl
theorem wl_L_156 : Cond.methodLink RL 156 yL_undo ∈ lwA := tm4 (i := 49) rfl rfl
theorem wl_L_64 : Cond.methodLink RL 64 yX7_undo ∈ lwA := tm4 (i := 52) rfl rfl
theorem wl_X7_215 : Cond.methodLink RX7 215 yX3_restoreInto ∈ lwA := tm4 (i := 57) rfl rfl
theorem wl_L_78 : Cond.methodLink RL 78 yX8_thrown ∈ lwA := tm4 (i := 110) rfl rfl
theorem wl_L_92 : Cond.methodLink RL 92 yX8_setWeight ∈ lwA := tm4 (i := 114) rfl rfl
theorem wl_X8_55 : Cond.methodLink RX8 55 yX8_isWord ∈ lwA := tm4 (i := 118) rfl rfl
theorem wl_X8_48 : Cond.methodLink RX8 48 yX8_in ∈ lwA := tm4 (i := 122) rfl rfl
theorem wl_X8_61 : Cond.methodLink RX8 61 yX8_goes ∈ lwA := tm4 (i := 126) rfl rfl
theorem wl_X8_65 : Cond.methodLink RX8 65 yX8_save ∈ lwA := tm4 (i := 130) rfl rfl
theorem wl_X8_52 : Cond.methodLink RX8 52 yX8_of ∈ lwA := tm4 (i := 134) rfl rfl
theorem wl_X8_44 : Cond.methodLink RX8 44 yX8_at ∈ lwA := tm4 (i := 138) rfl rfl
theorem wl_L_96 : Cond.methodLink RL 96 yX8_setKind ∈ lwA := tm4 (i := 141) rfl rfl
theorem wl_L_99 : Cond.methodLink RL 99 yX8_remove ∈ lwA := tm4 (i := 147) rfl rfl
theorem wl_L_102 : Cond.methodLink RL 102 yX8_setCanvas ∈ lwA := tm4 (i := 151) rfl rfl
theorem wl_X8_78 : Cond.methodLink RX8 78 yX8_isCanvas ∈ lwA := tm4 (i := 155) rfl rfl
theorem wl_L_105 : Cond.methodLink RL 105 yX8_setWays ∈ lwA := tm4 (i := 161) rfl rfl
theorem wl_L_108 : Cond.methodLink RL 108 yX8_word ∈ lwA := tm4 (i := 167) rfl rfl
theorem wl_X8_98 : Cond.methodLink RX8 98 yX8_wordValue ∈ lwA := tm4 (i := 172) rfl rfl
theorem wl_X8_86 : Cond.methodLink RX8 86 yX8_rankOf ∈ lwA := tm4 (i := 176) rfl rfl
theorem wl_X8_93 : Cond.methodLink RX8 93 yX8_sizeOf ∈ lwA := tm4 (i := 180) rfl rfl
theorem wl_X8_90 : Cond.methodLink RX8 90 yX8_ranked ∈ lwA := tm4 (i := 184) rfl rfl
theorem wl_L_111 : Cond.methodLink RL 111 yX8_letter ∈ lwA := tm4 (i := 188) rfl rfl
theorem wl_L_114 : Cond.methodLink RL 114 yX8_value ∈ lwA := tm4 (i := 192) rfl rfl
theorem wl_X8_110 : Cond.methodLink RX8 110 yX8_valueOf ∈ lwA := tm4 (i := 197) rfl rfl
theorem wl_X8_104 : Cond.methodLink RX8 104 yX8_placed ∈ lwA := tm4 (i := 201) rfl rfl
theorem wl_X8_101 : Cond.methodLink RX8 101 yX8_hasPlace ∈ lwA := tm4 (i := 205) rfl rfl
theorem wl_L_119 : Cond.methodLink RL 119 yX8_lay ∈ lwA := tm4 (i := 209) rfl rfl
theorem wl_X8_146 : Cond.methodLink RX8 146 yX8_laysAll ∈ lwA := tm4 (i := 213) rfl rfl
theorem wl_X8_136 : Cond.methodLink RX8 136 yX8_keeps ∈ lwA := tm4 (i := 217) rfl rfl
theorem wl_X8_119 : Cond.methodLink RX8 119 yX8_allows ∈ lwA := tm4 (i := 221) rfl rfl
theorem wl_X8_122 : Cond.methodLink RX8 122 yX8_tries ∈ lwA := tm4 (i := 225) rfl rfl
theorem wl_X8_116 : Cond.methodLink RX8 116 yX8_isFree ∈ lwA := tm4 (i := 229) rfl rfl
theorem wl_X8_139 : Cond.methodLink RX8 139 yX8_spirals ∈ lwA := tm4 (i := 233) rfl rfl
theorem wl_X8_126 : Cond.methodLink RX8 126 yX8_leader ∈ lwA := tm4 (i := 237) rfl rfl
theorem wl_X8_129 : Cond.methodLink RX8 129 yX8_triesBoth ∈ lwA := tm5 (i := 1) rfl rfl
theorem wl_X8_143 : Cond.methodLink RX8 143 yX8_takesOver ∈ lwA := tm5 (i := 5) rfl rfl
theorem wl_X8_133 : Cond.methodLink RX8 133 yX8_hasMoved ∈ lwA := tm5 (i := 9) rfl rfl
theorem wl_L_122 : Cond.methodLink RL 122 yX8_place ∈ lwA := tm5 (i := 13) rfl rfl
theorem wl_L_125 : Cond.methodLink RL 125 yX8_wordAt ∈ lwA := tm5 (i := 17) rfl rfl
theorem wl_X8_157 : Cond.methodLink RX8 157 yX8_coverer ∈ lwA := tm5 (i := 23) rfl rfl
theorem wl_X8_150 : Cond.methodLink RX8 150 yX8_covers ∈ lwA := tm5 (i := 27) rfl rfl
theorem wl_L_129 : Cond.methodLink RL 129 yX8_meetings ∈ lwA := tm5 (i := 31) rfl rfl
theorem wl_X8_160 : Cond.methodLink RX8 160 yX8_meet ∈ lwA := tm5 (i := 35) rfl rfl
theorem wl_L_132 : Cond.methodLink RL 132 yX8_extent ∈ lwA := tm5 (i := 39) rfl rfl
theorem wl_X8_166 : Cond.methodLink RX8 166 yX8_extentOf ∈ lwA := tm5 (i := 43) rfl rfl
theorem wl_X8_163 : Cond.methodLink RX8 163 yX8_coveredCells ∈ lwA := tm5 (i := 47) rfl rfl
theorem wl_L_137 : Cond.methodLink RL 137 yX8_covered ∈ lwA := tm5 (i := 51) rfl rfl
theorem wl_L_140 : Cond.methodLink RL 140 yX8_spread ∈ lwA := tm5 (i := 55) rfl rfl
theorem wl_X8_169 : Cond.methodLink RX8 169 yX8_size ∈ lwA := tm5 (i := 59) rfl rfl
theorem wl_L_144 : Cond.methodLink RL 144 yX8_placedOn ∈ lwA := tm5 (i := 62) rfl rfl
theorem wl_X8_172 : Cond.methodLink RX8 172 yX8_lays ∈ lwA := tm5 (i := 66) rfl rfl
theorem wl_X8_175 : Cond.methodLink RX8 175 yX8_takesBack ∈ lwA := tm5 (i := 70) rfl rfl
theorem wl_L_148 : Cond.methodLink RL 148 yX8_narrowest ∈ lwA := tm5 (i := 74) rfl rfl
theorem wl_L_151 : Cond.methodLink RL 151 yX8_movedBy ∈ lwA := tm5 (i := 78) rfl rfl
theorem wl_L_155 : Cond.methodLink RL 155 yX8_bestStride ∈ lwA := tm5 (i := 82) rfl rfl
theorem wl_L_77 : Cond.methodLink RL 77 yX8_append ∈ lwA := tm5 (i := 86) rfl rfl
theorem wl_L_84 : Cond.methodLink RL 84 yX8_clearText ∈ lwA := tm5 (i := 91) rfl rfl
theorem wl_L_88 : Cond.methodLink RL 88 yX8_parse ∈ lwA := tm5 (i := 95) rfl rfl
theorem wl_X8_214 : Cond.methodLink RX8 214 yX8_readsItem ∈ lwA := tm5 (i := 99) rfl rfl
theorem wl_X8_204 : Cond.methodLink RX8 204 yX8_readsWord ∈ lwA := tm5 (i := 103) rfl rfl
theorem wl_X8_186 : Cond.methodLink RX8 186 yX8_here ∈ lwA := tm5 (i := 107) rfl rfl
theorem wl_X8_193 : Cond.methodLink RX8 193 yX8_areOne ∈ lwA := tm5 (i := 113) rfl rfl
theorem wl_X8_208 : Cond.methodLink RX8 208 yX8_readsWeight ∈ lwA := tm5 (i := 117) rfl rfl
theorem wl_X8_201 : Cond.methodLink RX8 201 yX8_passesByte ∈ lwA := tm5 (i := 123) rfl rfl
theorem wl_X8_211 : Cond.methodLink RX8 211 yX8_readsFigure ∈ lwA := tm5 (i := 127) rfl rfl
theorem wl_X8_217 : Cond.methodLink RX8 217 yX8_findsPlaces ∈ lwA := tm5 (i := 131) rfl rfl
theorem wl_L_159 : Cond.methodLink RL 159 yX8_undo ∈ lwA := tm5 (i := 135) rfl rfl
theorem wl_L_164 : Cond.methodLink RL 164 yX8_digest ∈ lwA := tm5 (i := 139) rfl rfl
theorem wl_X8_222 : Cond.methodLink RX8 222 yX8_sums ∈ lwA := tm5 (i := 144) rfl rfl
theorem wl_X8_230 : Cond.methodLink RX8 230 yX8_withWord ∈ lwA := tm5 (i := 148) rfl rfl
theorem wl_X8_234 : Cond.methodLink RX8 234 yX8_meetings ∈ lwA := tm5 (i := 153) rfl rfl
theorem wk_X7_218 : Cond.constantLong RX7 218 (Int64.ofInt (3329)) ∈ lwA := tm3 (i := 16) rfl rfl
theorem wk_X7_270 : Cond.constantLong RX7 270 (Int64.ofInt (31)) ∈ lwA := tm3 (i := 20) rfl rfl
theorem wk_X8_59 : Cond.constantLong RX8 59 (Int64.ofInt (1000)) ∈ lwA := tm4 (i := 125) rfl rfl
theorem wk_X8_68 : Cond.constantLong RX8 68 (Int64.ofInt (2)) ∈ lwA := tm4 (i := 145) rfl rfl
theorem wk_X8_70 : Cond.constantLong RX8 70 (Int64.ofInt (3)) ∈ lwA := tm4 (i := 146) rfl rfl
theorem wk_X8_72 : Cond.constantLong RX8 72 (Int64.ofInt (10)) ∈ lwA := tm4 (i := 158) rfl rfl
theorem wk_X8_74 : Cond.constantLong RX8 74 (Int64.ofInt (80)) ∈ lwA := tm4 (i := 159) rfl rfl
theorem wk_X8_76 : Cond.constantLong RX8 76 (Int64.ofInt (50)) ∈ lwA := tm4 (i := 160) rfl rfl
theorem wk_X8_82 : Cond.constantLong RX8 82 (Int64.ofInt (4)) ∈ lwA := tm4 (i := 165) rfl rfl
theorem wk_X8_84 : Cond.constantLong RX8 84 (Int64.ofInt (8)) ∈ lwA := tm4 (i := 166) rfl rfl
theorem wk_X8_96 : Cond.constantLong RX8 96 (Int64.ofInt (5)) ∈ lwA := tm4 (i := 171) rfl rfl
theorem wk_X8_108 : Cond.constantLong RX8 108 (Int64.ofInt (7)) ∈ lwA := tm4 (i := 196) rfl rfl
theorem wk_X8_153 : Cond.constantLong RX8 153 (Int64.ofInt (79)) ∈ lwA := tm5 (i := 21) rfl rfl
theorem wk_X8_155 : Cond.constantLong RX8 155 (Int64.ofInt (49)) ∈ lwA := tm5 (i := 22) rfl rfl
theorem wk_X8_178 : Cond.constantLong RX8 178 (Int64.ofInt (127)) ∈ lwA := tm5 (i := 90) rfl rfl
theorem wk_X8_189 : Cond.constantLong RX8 189 (Int64.ofInt (97)) ∈ lwA := tm5 (i := 111) rfl rfl
theorem wk_X8_191 : Cond.constantLong RX8 191 (Int64.ofInt (122)) ∈ lwA := tm5 (i := 112) rfl rfl
theorem wk_X8_197 : Cond.constantLong RX8 197 (Int64.ofInt (48)) ∈ lwA := tm5 (i := 121) rfl rfl
theorem wk_X8_199 : Cond.constantLong RX8 199 (Int64.ofInt (57)) ∈ lwA := tm5 (i := 122) rfl rfl
theorem wk_X8_228 : Cond.constantLong RX8 228 (Int64.ofInt (3329)) ∈ lwA := tm5 (i := 143) rfl rfl
theorem wk_X8_220 : Cond.constantLong RX8 220 (Int64.ofInt (31)) ∈ lwA := tm5 (i := 147) rfl rfl
theorem wk_X8_226 : Cond.constantLong RX8 226 (Int64.ofInt (-1)) ∈ lwA := tm5 (i := 152) rfl rfl
