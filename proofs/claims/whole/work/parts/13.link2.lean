set_option maxRecDepth 100000 in
theorem lnf_3_54 : Cond.fieldLinkNest RX3 54 "RingUntie" "LIMITS" "[I" "RingUntie" ∈ wNest := nIn 327 (by decide +kernel) (by decide +kernel)
set_option maxRecDepth 100000 in
theorem lnf_5_48 : Cond.fieldLinkNest RX5 48 "RingUntie" "WORD_STARTS" "[I" "RingUntie" ∈ wNest := nIn 383 (by decide +kernel) (by decide +kernel)
set_option maxRecDepth 100000 in
theorem lj_5_58 : Cond.methodLink RX5 58 ⟨"java/lang/String", "charAt", "(I)C"⟩ ∈ wAll := (wIn 385 (by decide +kernel) (by decide +kernel))
set_option maxRecDepth 100000 in
theorem lj_5_53 : Cond.methodLink RX5 53 ⟨"java/lang/String", "length", "()I"⟩ ∈ wAll := (wIn 425 (by decide +kernel) (by decide +kernel))
