/-- links to nest mates' members -/
def gNF : List (String × Nat × String × String × String × String) := [(RX3, 51, "RisingParts$Row", "size", "I", "RisingParts"), (RX2, 34, "RisingParts$Row", "size", "I", "RisingParts"), (RX3, 46, "RisingParts$Row", "bound", "I", "RisingParts"), (RX3, 170, "RisingParts$History", "size", "I", "RisingParts"), (RX3, 171, "RisingParts$Text", "length", "I", "RisingParts")]
def gNM : List (String × Nat × MethodName × String) := [(RX1, 40, yX3_widthFor, "RisingParts"), (RX1, 44, yX3_zerosFor, "RisingParts"), (RX1, 51, yX3_bitsFor, "RisingParts"), (RX1, 66, yX3_sampledAhead, "RisingParts"), (RX2, 19, yX3_isWithin, "RisingParts")]
theorem gNF_tbl : ∀ q ∈ gNF, Cond.fieldLinkNest q.1 q.2.1 q.2.2.1 q.2.2.2.1 q.2.2.2.2.1 q.2.2.2.2.2 ∈ lw_tbl := by decide +kernel
theorem gNM_tbl : ∀ q ∈ gNM, Cond.methodLinkNest q.1 q.2.1 q.2.2.1 q.2.2.2 ∈ lw_tbl := by decide +kernel
