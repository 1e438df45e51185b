def exN : List String := ["java/lang/RuntimeException", "java/lang/Exception"]
theorem at_54 : ∀ w ∈ vx_atS RX7 56 (exn 1) exN, goodWord w = true := by decide +kernel
theorem at_54b : ∀ w ∈ (vx_atS RX7 56 (exn 1) exN).filter goodWord, w ∈ lwA := by decide +kernel
