abbrev rmX9_within : Room := { frames := 0, cells := 0, slots := 0, locals := 0 }
theorem hdX9_within : yX9_within.cls ≠ "java/lang/invoke/MethodHandle" ∧ yX9_within.cls ≠ "java/lang/invoke/VarHandle" ∧ (parseMethodDescriptor yX9_within.desc).map (fun d => d.parameters.length) = some 3 := by decide +kernel
theorem hvX9_within : yX9_within.cls = RX9 ∧ yX9_within.cls ≠ "java/lang/invoke/MethodHandle" ∧ yX9_within.cls ≠ "java/lang/invoke/VarHandle" ∧ (parseMethodDescriptor yX9_within.desc).map (fun d => d.parameters.length) = some 3 := by decide +kernel
abbrev rmX9_isIn : Room := { frames := 0, cells := 0, slots := 0, locals := 0 }
theorem hdX9_isIn : yX9_isIn.cls ≠ "java/lang/invoke/MethodHandle" ∧ yX9_isIn.cls ≠ "java/lang/invoke/VarHandle" ∧ (parseMethodDescriptor yX9_isIn.desc).map (fun d => d.parameters.length) = some 2 := by decide +kernel
theorem hvX9_isIn : yX9_isIn.cls = RX9 ∧ yX9_isIn.cls ≠ "java/lang/invoke/MethodHandle" ∧ yX9_isIn.cls ≠ "java/lang/invoke/VarHandle" ∧ (parseMethodDescriptor yX9_isIn.desc).map (fun d => d.parameters.length) = some 2 := by decide +kernel
abbrev rmX9_size : Room := { frames := 0, cells := 0, slots := 0, locals := 0 }
theorem hdX9_size : yX9_size.cls ≠ "java/lang/invoke/MethodHandle" ∧ yX9_size.cls ≠ "java/lang/invoke/VarHandle" ∧ (parseMethodDescriptor yX9_size.desc).map (fun d => d.parameters.length) = some 1 := by decide +kernel
theorem hvX9_size : yX9_size.cls = RX9 ∧ yX9_size.cls ≠ "java/lang/invoke/MethodHandle" ∧ yX9_size.cls ≠ "java/lang/invoke/VarHandle" ∧ (parseMethodDescriptor yX9_size.desc).map (fun d => d.parameters.length) = some 1 := by decide +kernel
abbrev rmX9_divisor : Room := { frames := 0, cells := 0, slots := 0, locals := 0 }
theorem hdX9_divisor : yX9_divisor.cls ≠ "java/lang/invoke/MethodHandle" ∧ yX9_divisor.cls ≠ "java/lang/invoke/VarHandle" ∧ (parseMethodDescriptor yX9_divisor.desc).map (fun d => d.parameters.length) = some 2 := by decide +kernel
theorem hvX9_divisor : yX9_divisor.cls = RX9 ∧ yX9_divisor.cls ≠ "java/lang/invoke/MethodHandle" ∧ yX9_divisor.cls ≠ "java/lang/invoke/VarHandle" ∧ (parseMethodDescriptor yX9_divisor.desc).map (fun d => d.parameters.length) = some 2 := by decide +kernel
abbrev rmX9_part : Room := { frames := 1, cells := 0, slots := 0, locals := 24 }
theorem hdX9_part : yX9_part.cls ≠ "java/lang/invoke/MethodHandle" ∧ yX9_part.cls ≠ "java/lang/invoke/VarHandle" ∧ (parseMethodDescriptor yX9_part.desc).map (fun d => d.parameters.length) = some 3 := by decide +kernel
theorem hvX9_part : yX9_part.cls = RX9 ∧ yX9_part.cls ≠ "java/lang/invoke/MethodHandle" ∧ yX9_part.cls ≠ "java/lang/invoke/VarHandle" ∧ (parseMethodDescriptor yX9_part.desc).map (fun d => d.parameters.length) = some 3 := by decide +kernel
abbrev rmX9_letter : Room := { frames := 1, cells := 0, slots := 0, locals := 22 }
theorem hdX9_letter : yX9_letter.cls ≠ "java/lang/invoke/MethodHandle" ∧ yX9_letter.cls ≠ "java/lang/invoke/VarHandle" ∧ (parseMethodDescriptor yX9_letter.desc).map (fun d => d.parameters.length) = some 1 := by decide +kernel
theorem hvX9_letter : yX9_letter.cls = RX9 ∧ yX9_letter.cls ≠ "java/lang/invoke/MethodHandle" ∧ yX9_letter.cls ≠ "java/lang/invoke/VarHandle" ∧ (parseMethodDescriptor yX9_letter.desc).map (fun d => d.parameters.length) = some 1 := by decide +kernel
abbrev rmX9_blank : Room := { frames := 0, cells := 0, slots := 0, locals := 0 }
theorem hdX9_blank : yX9_blank.cls ≠ "java/lang/invoke/MethodHandle" ∧ yX9_blank.cls ≠ "java/lang/invoke/VarHandle" ∧ (parseMethodDescriptor yX9_blank.desc).map (fun d => d.parameters.length) = some 0 := by decide +kernel
theorem hvX9_blank : yX9_blank.cls = RX9 ∧ yX9_blank.cls ≠ "java/lang/invoke/MethodHandle" ∧ yX9_blank.cls ≠ "java/lang/invoke/VarHandle" ∧ (parseMethodDescriptor yX9_blank.desc).map (fun d => d.parameters.length) = some 0 := by decide +kernel
abbrev rmX9_kindBy : Room := { frames := 0, cells := 0, slots := 0, locals := 0 }
theorem hdX9_kindBy : yX9_kindBy.cls ≠ "java/lang/invoke/MethodHandle" ∧ yX9_kindBy.cls ≠ "java/lang/invoke/VarHandle" ∧ (parseMethodDescriptor yX9_kindBy.desc).map (fun d => d.parameters.length) = some 1 := by decide +kernel
theorem hvX9_kindBy : yX9_kindBy.cls = RX9 ∧ yX9_kindBy.cls ≠ "java/lang/invoke/MethodHandle" ∧ yX9_kindBy.cls ≠ "java/lang/invoke/VarHandle" ∧ (parseMethodDescriptor yX9_kindBy.desc).map (fun d => d.parameters.length) = some 1 := by decide +kernel
abbrev rmX9_at : Room := { frames := 0, cells := 0, slots := 0, locals := 0 }
theorem hdX9_at : yX9_at.cls ≠ "java/lang/invoke/MethodHandle" ∧ yX9_at.cls ≠ "java/lang/invoke/VarHandle" ∧ (parseMethodDescriptor yX9_at.desc).map (fun d => d.parameters.length) = some 1 := by decide +kernel
theorem hvX9_at : yX9_at.cls = RX9 ∧ yX9_at.cls ≠ "java/lang/invoke/MethodHandle" ∧ yX9_at.cls ≠ "java/lang/invoke/VarHandle" ∧ (parseMethodDescriptor yX9_at.desc).map (fun d => d.parameters.length) = some 1 := by decide +kernel
abbrev rmX9_isLean : Room := { frames := 0, cells := 0, slots := 0, locals := 0 }
theorem hdX9_isLean : yX9_isLean.cls ≠ "java/lang/invoke/MethodHandle" ∧ yX9_isLean.cls ≠ "java/lang/invoke/VarHandle" ∧ (parseMethodDescriptor yX9_isLean.desc).map (fun d => d.parameters.length) = some 1 := by decide +kernel
theorem hvX9_isLean : yX9_isLean.cls = RX9 ∧ yX9_isLean.cls ≠ "java/lang/invoke/MethodHandle" ∧ yX9_isLean.cls ≠ "java/lang/invoke/VarHandle" ∧ (parseMethodDescriptor yX9_isLean.desc).map (fun d => d.parameters.length) = some 1 := by decide +kernel
abbrev rmX9_readOne : Room := { frames := 1, cells := 0, slots := 0, locals := 22 }
theorem hdX9_readOne : yX9_readOne.cls ≠ "java/lang/invoke/MethodHandle" ∧ yX9_readOne.cls ≠ "java/lang/invoke/VarHandle" ∧ (parseMethodDescriptor yX9_readOne.desc).map (fun d => d.parameters.length) = some 1 := by decide +kernel
theorem hvX9_readOne : yX9_readOne.cls = RX9 ∧ yX9_readOne.cls ≠ "java/lang/invoke/MethodHandle" ∧ yX9_readOne.cls ≠ "java/lang/invoke/VarHandle" ∧ (parseMethodDescriptor yX9_readOne.desc).map (fun d => d.parameters.length) = some 1 := by decide +kernel
abbrev rmX9_read : Room := { frames := 2, cells := 0, slots := 0, locals := 44 }
theorem hdX9_read : yX9_read.cls ≠ "java/lang/invoke/MethodHandle" ∧ yX9_read.cls ≠ "java/lang/invoke/VarHandle" ∧ (parseMethodDescriptor yX9_read.desc).map (fun d => d.parameters.length) = some 0 := by decide +kernel
theorem hvX9_read : yX9_read.cls = RX9 ∧ yX9_read.cls ≠ "java/lang/invoke/MethodHandle" ∧ yX9_read.cls ≠ "java/lang/invoke/VarHandle" ∧ (parseMethodDescriptor yX9_read.desc).map (fun d => d.parameters.length) = some 0 := by decide +kernel
abbrev rmX9_fault : Room := { frames := 3, cells := 0, slots := 0, locals := 66 }
theorem hdX9_fault : yX9_fault.cls ≠ "java/lang/invoke/MethodHandle" ∧ yX9_fault.cls ≠ "java/lang/invoke/VarHandle" ∧ (parseMethodDescriptor yX9_fault.desc).map (fun d => d.parameters.length) = some 0 := by decide +kernel
theorem hvX9_fault : yX9_fault.cls = RX9 ∧ yX9_fault.cls ≠ "java/lang/invoke/MethodHandle" ∧ yX9_fault.cls ≠ "java/lang/invoke/VarHandle" ∧ (parseMethodDescriptor yX9_fault.desc).map (fun d => d.parameters.length) = some 0 := by decide +kernel
abbrev rmX9_rope : Room := { frames := 3, cells := 0, slots := 0, locals := 66 }
theorem hdX9_rope : yX9_rope.cls ≠ "java/lang/invoke/MethodHandle" ∧ yX9_rope.cls ≠ "java/lang/invoke/VarHandle" ∧ (parseMethodDescriptor yX9_rope.desc).map (fun d => d.parameters.length) = some 0 := by decide +kernel
theorem hvX9_rope : yX9_rope.cls = RX9 ∧ yX9_rope.cls ≠ "java/lang/invoke/MethodHandle" ∧ yX9_rope.cls ≠ "java/lang/invoke/VarHandle" ∧ (parseMethodDescriptor yX9_rope.desc).map (fun d => d.parameters.length) = some 0 := by decide +kernel
abbrev rmX9_isMussel : Room := { frames := 1, cells := 0, slots := 0, locals := 22 }
theorem hdX9_isMussel : yX9_isMussel.cls ≠ "java/lang/invoke/MethodHandle" ∧ yX9_isMussel.cls ≠ "java/lang/invoke/VarHandle" ∧ (parseMethodDescriptor yX9_isMussel.desc).map (fun d => d.parameters.length) = some 1 := by decide +kernel
theorem hvX9_isMussel : yX9_isMussel.cls = RX9 ∧ yX9_isMussel.cls ≠ "java/lang/invoke/MethodHandle" ∧ yX9_isMussel.cls ≠ "java/lang/invoke/VarHandle" ∧ (parseMethodDescriptor yX9_isMussel.desc).map (fun d => d.parameters.length) = some 1 := by decide +kernel
abbrev rmX9_isQuestion : Room := { frames := 1, cells := 0, slots := 0, locals := 22 }
theorem hdX9_isQuestion : yX9_isQuestion.cls ≠ "java/lang/invoke/MethodHandle" ∧ yX9_isQuestion.cls ≠ "java/lang/invoke/VarHandle" ∧ (parseMethodDescriptor yX9_isQuestion.desc).map (fun d => d.parameters.length) = some 1 := by decide +kernel
theorem hvX9_isQuestion : yX9_isQuestion.cls = RX9 ∧ yX9_isQuestion.cls ≠ "java/lang/invoke/MethodHandle" ∧ yX9_isQuestion.cls ≠ "java/lang/invoke/VarHandle" ∧ (parseMethodDescriptor yX9_isQuestion.desc).map (fun d => d.parameters.length) = some 1 := by decide +kernel
abbrev rmX9_isFelt : Room := { frames := 0, cells := 0, slots := 0, locals := 0 }
theorem hdX9_isFelt : yX9_isFelt.cls ≠ "java/lang/invoke/MethodHandle" ∧ yX9_isFelt.cls ≠ "java/lang/invoke/VarHandle" ∧ (parseMethodDescriptor yX9_isFelt.desc).map (fun d => d.parameters.length) = some 1 := by decide +kernel
theorem hvX9_isFelt : yX9_isFelt.cls = RX9 ∧ yX9_isFelt.cls ≠ "java/lang/invoke/MethodHandle" ∧ yX9_isFelt.cls ≠ "java/lang/invoke/VarHandle" ∧ (parseMethodDescriptor yX9_isFelt.desc).map (fun d => d.parameters.length) = some 1 := by decide +kernel
abbrev rmX9_felt : Room := { frames := 1, cells := 0, slots := 0, locals := 21 }
theorem hdX9_felt : yX9_felt.cls ≠ "java/lang/invoke/MethodHandle" ∧ yX9_felt.cls ≠ "java/lang/invoke/VarHandle" ∧ (parseMethodDescriptor yX9_felt.desc).map (fun d => d.parameters.length) = some 0 := by decide +kernel
theorem hvX9_felt : yX9_felt.cls = RX9 ∧ yX9_felt.cls ≠ "java/lang/invoke/MethodHandle" ∧ yX9_felt.cls ≠ "java/lang/invoke/VarHandle" ∧ (parseMethodDescriptor yX9_felt.desc).map (fun d => d.parameters.length) = some 0 := by decide +kernel
abbrev rmX9_leanAhead : Room := { frames := 1, cells := 0, slots := 0, locals := 21 }
theorem hdX9_leanAhead : yX9_leanAhead.cls ≠ "java/lang/invoke/MethodHandle" ∧ yX9_leanAhead.cls ≠ "java/lang/invoke/VarHandle" ∧ (parseMethodDescriptor yX9_leanAhead.desc).map (fun d => d.parameters.length) = some 2 := by decide +kernel
theorem hvX9_leanAhead : yX9_leanAhead.cls = RX9 ∧ yX9_leanAhead.cls ≠ "java/lang/invoke/MethodHandle" ∧ yX9_leanAhead.cls ≠ "java/lang/invoke/VarHandle" ∧ (parseMethodDescriptor yX9_leanAhead.desc).map (fun d => d.parameters.length) = some 2 := by decide +kernel
abbrev rmX9_leanBehind : Room := { frames := 1, cells := 0, slots := 0, locals := 21 }
theorem hdX9_leanBehind : yX9_leanBehind.cls ≠ "java/lang/invoke/MethodHandle" ∧ yX9_leanBehind.cls ≠ "java/lang/invoke/VarHandle" ∧ (parseMethodDescriptor yX9_leanBehind.desc).map (fun d => d.parameters.length) = some 2 := by decide +kernel
theorem hvX9_leanBehind : yX9_leanBehind.cls = RX9 ∧ yX9_leanBehind.cls ≠ "java/lang/invoke/MethodHandle" ∧ yX9_leanBehind.cls ≠ "java/lang/invoke/VarHandle" ∧ (parseMethodDescriptor yX9_leanBehind.desc).map (fun d => d.parameters.length) = some 2 := by decide +kernel
abbrev rmX9_pulls : Room := { frames := 2, cells := 0, slots := 0, locals := 43 }
theorem hdX9_pulls : yX9_pulls.cls ≠ "java/lang/invoke/MethodHandle" ∧ yX9_pulls.cls ≠ "java/lang/invoke/VarHandle" ∧ (parseMethodDescriptor yX9_pulls.desc).map (fun d => d.parameters.length) = some 2 := by decide +kernel
theorem hvX9_pulls : yX9_pulls.cls = RX9 ∧ yX9_pulls.cls ≠ "java/lang/invoke/MethodHandle" ∧ yX9_pulls.cls ≠ "java/lang/invoke/VarHandle" ∧ (parseMethodDescriptor yX9_pulls.desc).map (fun d => d.parameters.length) = some 2 := by decide +kernel
abbrev rmX9_sumOf : Room := { frames := 3, cells := 0, slots := 0, locals := 68 }
theorem hdX9_sumOf : yX9_sumOf.cls ≠ "java/lang/invoke/MethodHandle" ∧ yX9_sumOf.cls ≠ "java/lang/invoke/VarHandle" ∧ (parseMethodDescriptor yX9_sumOf.desc).map (fun d => d.parameters.length) = some 1 := by decide +kernel
theorem hvX9_sumOf : yX9_sumOf.cls = RX9 ∧ yX9_sumOf.cls ≠ "java/lang/invoke/MethodHandle" ∧ yX9_sumOf.cls ≠ "java/lang/invoke/VarHandle" ∧ (parseMethodDescriptor yX9_sumOf.desc).map (fun d => d.parameters.length) = some 1 := by decide +kernel
abbrev rmX9_outOf : Room := { frames := 4, cells := 0, slots := 0, locals := 91 }
theorem hdX9_outOf : yX9_outOf.cls ≠ "java/lang/invoke/MethodHandle" ∧ yX9_outOf.cls ≠ "java/lang/invoke/VarHandle" ∧ (parseMethodDescriptor yX9_outOf.desc).map (fun d => d.parameters.length) = some 1 := by decide +kernel
theorem hvX9_outOf : yX9_outOf.cls = RX9 ∧ yX9_outOf.cls ≠ "java/lang/invoke/MethodHandle" ∧ yX9_outOf.cls ≠ "java/lang/invoke/VarHandle" ∧ (parseMethodDescriptor yX9_outOf.desc).map (fun d => d.parameters.length) = some 1 := by decide +kernel
abbrev rmX9_leaning : Room := { frames := 0, cells := 0, slots := 0, locals := 0 }
theorem hdX9_leaning : yX9_leaning.cls ≠ "java/lang/invoke/MethodHandle" ∧ yX9_leaning.cls ≠ "java/lang/invoke/VarHandle" ∧ (parseMethodDescriptor yX9_leaning.desc).map (fun d => d.parameters.length) = some 2 := by decide +kernel
theorem hvX9_leaning : yX9_leaning.cls = RX9 ∧ yX9_leaning.cls ≠ "java/lang/invoke/MethodHandle" ∧ yX9_leaning.cls ≠ "java/lang/invoke/VarHandle" ∧ (parseMethodDescriptor yX9_leaning.desc).map (fun d => d.parameters.length) = some 2 := by decide +kernel
abbrev rmX9_musselNow : Room := { frames := 7, cells := 0, slots := 0, locals := 168 }
theorem hdX9_musselNow : yX9_musselNow.cls ≠ "java/lang/invoke/MethodHandle" ∧ yX9_musselNow.cls ≠ "java/lang/invoke/VarHandle" ∧ (parseMethodDescriptor yX9_musselNow.desc).map (fun d => d.parameters.length) = some 2 := by decide +kernel
theorem hvX9_musselNow : yX9_musselNow.cls = RX9 ∧ yX9_musselNow.cls ≠ "java/lang/invoke/MethodHandle" ∧ yX9_musselNow.cls ≠ "java/lang/invoke/VarHandle" ∧ (parseMethodDescriptor yX9_musselNow.desc).map (fun d => d.parameters.length) = some 2 := by decide +kernel
abbrev rmX9_isTold : Room := { frames := 1, cells := 0, slots := 0, locals := 22 }
theorem hdX9_isTold : yX9_isTold.cls ≠ "java/lang/invoke/MethodHandle" ∧ yX9_isTold.cls ≠ "java/lang/invoke/VarHandle" ∧ (parseMethodDescriptor yX9_isTold.desc).map (fun d => d.parameters.length) = some 1 := by decide +kernel
theorem hvX9_isTold : yX9_isTold.cls = RX9 ∧ yX9_isTold.cls ≠ "java/lang/invoke/MethodHandle" ∧ yX9_isTold.cls ≠ "java/lang/invoke/VarHandle" ∧ (parseMethodDescriptor yX9_isTold.desc).map (fun d => d.parameters.length) = some 1 := by decide +kernel
abbrev rmX9_mussel : Room := { frames := 8, cells := 0, slots := 0, locals := 190 }
theorem hdX9_mussel : yX9_mussel.cls ≠ "java/lang/invoke/MethodHandle" ∧ yX9_mussel.cls ≠ "java/lang/invoke/VarHandle" ∧ (parseMethodDescriptor yX9_mussel.desc).map (fun d => d.parameters.length) = some 2 := by decide +kernel
theorem hvX9_mussel : yX9_mussel.cls = RX9 ∧ yX9_mussel.cls ≠ "java/lang/invoke/MethodHandle" ∧ yX9_mussel.cls ≠ "java/lang/invoke/VarHandle" ∧ (parseMethodDescriptor yX9_mussel.desc).map (fun d => d.parameters.length) = some 2 := by decide +kernel
abbrev rmX9_as : Room := { frames := 2, cells := 0, slots := 0, locals := 43 }
theorem hdX9_as : yX9_as.cls ≠ "java/lang/invoke/MethodHandle" ∧ yX9_as.cls ≠ "java/lang/invoke/VarHandle" ∧ (parseMethodDescriptor yX9_as.desc).map (fun d => d.parameters.length) = some 2 := by decide +kernel
theorem hvX9_as : yX9_as.cls = RX9 ∧ yX9_as.cls ≠ "java/lang/invoke/MethodHandle" ∧ yX9_as.cls ≠ "java/lang/invoke/VarHandle" ∧ (parseMethodDescriptor yX9_as.desc).map (fun d => d.parameters.length) = some 2 := by decide +kernel
abbrev rmX9_questionNow : Room := { frames := 5, cells := 0, slots := 0, locals := 113 }
theorem hdX9_questionNow : yX9_questionNow.cls ≠ "java/lang/invoke/MethodHandle" ∧ yX9_questionNow.cls ≠ "java/lang/invoke/VarHandle" ∧ (parseMethodDescriptor yX9_questionNow.desc).map (fun d => d.parameters.length) = some 2 := by decide +kernel
theorem hvX9_questionNow : yX9_questionNow.cls = RX9 ∧ yX9_questionNow.cls ≠ "java/lang/invoke/MethodHandle" ∧ yX9_questionNow.cls ≠ "java/lang/invoke/VarHandle" ∧ (parseMethodDescriptor yX9_questionNow.desc).map (fun d => d.parameters.length) = some 2 := by decide +kernel
abbrev rmX9_question : Room := { frames := 6, cells := 0, slots := 0, locals := 135 }
theorem hdX9_question : yX9_question.cls ≠ "java/lang/invoke/MethodHandle" ∧ yX9_question.cls ≠ "java/lang/invoke/VarHandle" ∧ (parseMethodDescriptor yX9_question.desc).map (fun d => d.parameters.length) = some 2 := by decide +kernel
theorem hvX9_question : yX9_question.cls = RX9 ∧ yX9_question.cls ≠ "java/lang/invoke/MethodHandle" ∧ yX9_question.cls ≠ "java/lang/invoke/VarHandle" ∧ (parseMethodDescriptor yX9_question.desc).map (fun d => d.parameters.length) = some 2 := by decide +kernel
abbrev rmX9_ask : Room := { frames := 5, cells := 0, slots := 0, locals := 113 }
theorem hdX9_ask : yX9_ask.cls ≠ "java/lang/invoke/MethodHandle" ∧ yX9_ask.cls ≠ "java/lang/invoke/VarHandle" ∧ (parseMethodDescriptor yX9_ask.desc).map (fun d => d.parameters.length) = some 1 := by decide +kernel
theorem hvX9_ask : yX9_ask.cls = RX9 ∧ yX9_ask.cls ≠ "java/lang/invoke/MethodHandle" ∧ yX9_ask.cls ≠ "java/lang/invoke/VarHandle" ∧ (parseMethodDescriptor yX9_ask.desc).map (fun d => d.parameters.length) = some 1 := by decide +kernel
abbrev rmX9_turnTide : Room := { frames := 2, cells := 0, slots := 0, locals := 43 }
theorem hdX9_turnTide : yX9_turnTide.cls ≠ "java/lang/invoke/MethodHandle" ∧ yX9_turnTide.cls ≠ "java/lang/invoke/VarHandle" ∧ (parseMethodDescriptor yX9_turnTide.desc).map (fun d => d.parameters.length) = some 0 := by decide +kernel
theorem hvX9_turnTide : yX9_turnTide.cls = RX9 ∧ yX9_turnTide.cls ≠ "java/lang/invoke/MethodHandle" ∧ yX9_turnTide.cls ≠ "java/lang/invoke/VarHandle" ∧ (parseMethodDescriptor yX9_turnTide.desc).map (fun d => d.parameters.length) = some 0 := by decide +kernel
abbrev rmX9_tide : Room := { frames := 3, cells := 0, slots := 0, locals := 67 }
theorem hdX9_tide : yX9_tide.cls ≠ "java/lang/invoke/MethodHandle" ∧ yX9_tide.cls ≠ "java/lang/invoke/VarHandle" ∧ (parseMethodDescriptor yX9_tide.desc).map (fun d => d.parameters.length) = some 0 := by decide +kernel
theorem hvX9_tide : yX9_tide.cls = RX9 ∧ yX9_tide.cls ≠ "java/lang/invoke/MethodHandle" ∧ yX9_tide.cls ≠ "java/lang/invoke/VarHandle" ∧ (parseMethodDescriptor yX9_tide.desc).map (fun d => d.parameters.length) = some 0 := by decide +kernel
abbrev rmX9_cut : Room := { frames := 2, cells := 0, slots := 0, locals := 43 }
theorem hdX9_cut : yX9_cut.cls ≠ "java/lang/invoke/MethodHandle" ∧ yX9_cut.cls ≠ "java/lang/invoke/VarHandle" ∧ (parseMethodDescriptor yX9_cut.desc).map (fun d => d.parameters.length) = some 1 := by decide +kernel
theorem hvX9_cut : yX9_cut.cls = RX9 ∧ yX9_cut.cls ≠ "java/lang/invoke/MethodHandle" ∧ yX9_cut.cls ≠ "java/lang/invoke/VarHandle" ∧ (parseMethodDescriptor yX9_cut.desc).map (fun d => d.parameters.length) = some 1 := by decide +kernel
abbrev rmX9_tie : Room := { frames := 2, cells := 0, slots := 0, locals := 43 }
theorem hdX9_tie : yX9_tie.cls ≠ "java/lang/invoke/MethodHandle" ∧ yX9_tie.cls ≠ "java/lang/invoke/VarHandle" ∧ (parseMethodDescriptor yX9_tie.desc).map (fun d => d.parameters.length) = some 1 := by decide +kernel
theorem hvX9_tie : yX9_tie.cls = RX9 ∧ yX9_tie.cls ≠ "java/lang/invoke/MethodHandle" ∧ yX9_tie.cls ≠ "java/lang/invoke/VarHandle" ∧ (parseMethodDescriptor yX9_tie.desc).map (fun d => d.parameters.length) = some 1 := by decide +kernel
abbrev rmX9_turn : Room := { frames := 2, cells := 0, slots := 0, locals := 43 }
theorem hdX9_turn : yX9_turn.cls ≠ "java/lang/invoke/MethodHandle" ∧ yX9_turn.cls ≠ "java/lang/invoke/VarHandle" ∧ (parseMethodDescriptor yX9_turn.desc).map (fun d => d.parameters.length) = some 3 := by decide +kernel
theorem hvX9_turn : yX9_turn.cls = RX9 ∧ yX9_turn.cls ≠ "java/lang/invoke/MethodHandle" ∧ yX9_turn.cls ≠ "java/lang/invoke/VarHandle" ∧ (parseMethodDescriptor yX9_turn.desc).map (fun d => d.parameters.length) = some 3 := by decide +kernel
abbrev rmX9_grow : Room := { frames := 2, cells := 0, slots := 0, locals := 43 }
theorem hdX9_grow : yX9_grow.cls ≠ "java/lang/invoke/MethodHandle" ∧ yX9_grow.cls ≠ "java/lang/invoke/VarHandle" ∧ (parseMethodDescriptor yX9_grow.desc).map (fun d => d.parameters.length) = some 2 := by decide +kernel
theorem hvX9_grow : yX9_grow.cls = RX9 ∧ yX9_grow.cls ≠ "java/lang/invoke/MethodHandle" ∧ yX9_grow.cls ≠ "java/lang/invoke/VarHandle" ∧ (parseMethodDescriptor yX9_grow.desc).map (fun d => d.parameters.length) = some 2 := by decide +kernel
abbrev rmX9_orders : Room := { frames := 0, cells := 0, slots := 0, locals := 0 }
theorem hdX9_orders : yX9_orders.cls ≠ "java/lang/invoke/MethodHandle" ∧ yX9_orders.cls ≠ "java/lang/invoke/VarHandle" ∧ (parseMethodDescriptor yX9_orders.desc).map (fun d => d.parameters.length) = some 1 := by decide +kernel
theorem hvX9_orders : yX9_orders.cls = RX9 ∧ yX9_orders.cls ≠ "java/lang/invoke/MethodHandle" ∧ yX9_orders.cls ≠ "java/lang/invoke/VarHandle" ∧ (parseMethodDescriptor yX9_orders.desc).map (fun d => d.parameters.length) = some 1 := by decide +kernel
abbrev rmX9_forBy : Room := { frames := 3, cells := 0, slots := 0, locals := 68 }
theorem hdX9_forBy : yX9_forBy.cls ≠ "java/lang/invoke/MethodHandle" ∧ yX9_forBy.cls ≠ "java/lang/invoke/VarHandle" ∧ (parseMethodDescriptor yX9_forBy.desc).map (fun d => d.parameters.length) = some 2 := by decide +kernel
theorem hvX9_forBy : yX9_forBy.cls = RX9 ∧ yX9_forBy.cls ≠ "java/lang/invoke/MethodHandle" ∧ yX9_forBy.cls ≠ "java/lang/invoke/VarHandle" ∧ (parseMethodDescriptor yX9_forBy.desc).map (fun d => d.parameters.length) = some 2 := by decide +kernel
abbrev rmX9_sayNow : Room := { frames := 4, cells := 0, slots := 0, locals := 93 }
theorem hdX9_sayNow : yX9_sayNow.cls ≠ "java/lang/invoke/MethodHandle" ∧ yX9_sayNow.cls ≠ "java/lang/invoke/VarHandle" ∧ (parseMethodDescriptor yX9_sayNow.desc).map (fun d => d.parameters.length) = some 3 := by decide +kernel
theorem hvX9_sayNow : yX9_sayNow.cls = RX9 ∧ yX9_sayNow.cls ≠ "java/lang/invoke/MethodHandle" ∧ yX9_sayNow.cls ≠ "java/lang/invoke/VarHandle" ∧ (parseMethodDescriptor yX9_sayNow.desc).map (fun d => d.parameters.length) = some 3 := by decide +kernel
abbrev rmX9_say : Room := { frames := 5, cells := 0, slots := 0, locals := 125 }
theorem hdX9_say : yX9_say.cls ≠ "java/lang/invoke/MethodHandle" ∧ yX9_say.cls ≠ "java/lang/invoke/VarHandle" ∧ (parseMethodDescriptor yX9_say.desc).map (fun d => d.parameters.length) = some 3 := by decide +kernel
theorem hvX9_say : yX9_say.cls = RX9 ∧ yX9_say.cls ≠ "java/lang/invoke/MethodHandle" ∧ yX9_say.cls ≠ "java/lang/invoke/VarHandle" ∧ (parseMethodDescriptor yX9_say.desc).map (fun d => d.parameters.length) = some 3 := by decide +kernel
abbrev rmX9_chanceNow : Room := { frames := 3, cells := 0, slots := 0, locals := 68 }
theorem hdX9_chanceNow : yX9_chanceNow.cls ≠ "java/lang/invoke/MethodHandle" ∧ yX9_chanceNow.cls ≠ "java/lang/invoke/VarHandle" ∧ (parseMethodDescriptor yX9_chanceNow.desc).map (fun d => d.parameters.length) = some 3 := by decide +kernel
theorem hvX9_chanceNow : yX9_chanceNow.cls = RX9 ∧ yX9_chanceNow.cls ≠ "java/lang/invoke/MethodHandle" ∧ yX9_chanceNow.cls ≠ "java/lang/invoke/VarHandle" ∧ (parseMethodDescriptor yX9_chanceNow.desc).map (fun d => d.parameters.length) = some 3 := by decide +kernel
abbrev rmX9_chance : Room := { frames := 4, cells := 0, slots := 0, locals := 98 }
theorem hdX9_chance : yX9_chance.cls ≠ "java/lang/invoke/MethodHandle" ∧ yX9_chance.cls ≠ "java/lang/invoke/VarHandle" ∧ (parseMethodDescriptor yX9_chance.desc).map (fun d => d.parameters.length) = some 3 := by decide +kernel
theorem hvX9_chance : yX9_chance.cls = RX9 ∧ yX9_chance.cls ≠ "java/lang/invoke/MethodHandle" ∧ yX9_chance.cls ≠ "java/lang/invoke/VarHandle" ∧ (parseMethodDescriptor yX9_chance.desc).map (fun d => d.parameters.length) = some 3 := by decide +kernel
abbrev rmX9_cutsNow : Room := { frames := 5, cells := 0, slots := 0, locals := 113 }
theorem hdX9_cutsNow : yX9_cutsNow.cls ≠ "java/lang/invoke/MethodHandle" ∧ yX9_cutsNow.cls ≠ "java/lang/invoke/VarHandle" ∧ (parseMethodDescriptor yX9_cutsNow.desc).map (fun d => d.parameters.length) = some 3 := by decide +kernel
theorem hvX9_cutsNow : yX9_cutsNow.cls = RX9 ∧ yX9_cutsNow.cls ≠ "java/lang/invoke/MethodHandle" ∧ yX9_cutsNow.cls ≠ "java/lang/invoke/VarHandle" ∧ (parseMethodDescriptor yX9_cutsNow.desc).map (fun d => d.parameters.length) = some 3 := by decide +kernel
abbrev rmX9_cuts : Room := { frames := 6, cells := 0, slots := 0, locals := 139 }
theorem hdX9_cuts : yX9_cuts.cls ≠ "java/lang/invoke/MethodHandle" ∧ yX9_cuts.cls ≠ "java/lang/invoke/VarHandle" ∧ (parseMethodDescriptor yX9_cuts.desc).map (fun d => d.parameters.length) = some 3 := by decide +kernel
theorem hvX9_cuts : yX9_cuts.cls = RX9 ∧ yX9_cuts.cls ≠ "java/lang/invoke/MethodHandle" ∧ yX9_cuts.cls ≠ "java/lang/invoke/VarHandle" ∧ (parseMethodDescriptor yX9_cuts.desc).map (fun d => d.parameters.length) = some 3 := by decide +kernel
abbrev rmX9_saveLeans : Room := { frames := 0, cells := 0, slots := 0, locals := 0 }
theorem hdX9_saveLeans : yX9_saveLeans.cls ≠ "java/lang/invoke/MethodHandle" ∧ yX9_saveLeans.cls ≠ "java/lang/invoke/VarHandle" ∧ (parseMethodDescriptor yX9_saveLeans.desc).map (fun d => d.parameters.length) = some 0 := by decide +kernel
theorem hvX9_saveLeans : yX9_saveLeans.cls = RX9 ∧ yX9_saveLeans.cls ≠ "java/lang/invoke/MethodHandle" ∧ yX9_saveLeans.cls ≠ "java/lang/invoke/VarHandle" ∧ (parseMethodDescriptor yX9_saveLeans.desc).map (fun d => d.parameters.length) = some 0 := by decide +kernel
abbrev rmX9_loadLeans : Room := { frames := 0, cells := 0, slots := 0, locals := 0 }
theorem hdX9_loadLeans : yX9_loadLeans.cls ≠ "java/lang/invoke/MethodHandle" ∧ yX9_loadLeans.cls ≠ "java/lang/invoke/VarHandle" ∧ (parseMethodDescriptor yX9_loadLeans.desc).map (fun d => d.parameters.length) = some 0 := by decide +kernel
theorem hvX9_loadLeans : yX9_loadLeans.cls = RX9 ∧ yX9_loadLeans.cls ≠ "java/lang/invoke/MethodHandle" ∧ yX9_loadLeans.cls ≠ "java/lang/invoke/VarHandle" ∧ (parseMethodDescriptor yX9_loadLeans.desc).map (fun d => d.parameters.length) = some 0 := by decide +kernel
abbrev rmX9_otherwise : Room := { frames := 0, cells := 0, slots := 0, locals := 0 }
theorem hdX9_otherwise : yX9_otherwise.cls ≠ "java/lang/invoke/MethodHandle" ∧ yX9_otherwise.cls ≠ "java/lang/invoke/VarHandle" ∧ (parseMethodDescriptor yX9_otherwise.desc).map (fun d => d.parameters.length) = some 1 := by decide +kernel
theorem hvX9_otherwise : yX9_otherwise.cls = RX9 ∧ yX9_otherwise.cls ≠ "java/lang/invoke/MethodHandle" ∧ yX9_otherwise.cls ≠ "java/lang/invoke/VarHandle" ∧ (parseMethodDescriptor yX9_otherwise.desc).map (fun d => d.parameters.length) = some 1 := by decide +kernel
abbrev rmX9_turnsNow : Room := { frames := 5, cells := 0, slots := 0, locals := 113 }
theorem hdX9_turnsNow : yX9_turnsNow.cls ≠ "java/lang/invoke/MethodHandle" ∧ yX9_turnsNow.cls ≠ "java/lang/invoke/VarHandle" ∧ (parseMethodDescriptor yX9_turnsNow.desc).map (fun d => d.parameters.length) = some 3 := by decide +kernel
theorem hvX9_turnsNow : yX9_turnsNow.cls = RX9 ∧ yX9_turnsNow.cls ≠ "java/lang/invoke/MethodHandle" ∧ yX9_turnsNow.cls ≠ "java/lang/invoke/VarHandle" ∧ (parseMethodDescriptor yX9_turnsNow.desc).map (fun d => d.parameters.length) = some 3 := by decide +kernel
abbrev rmX9_fewTurns : Room := { frames := 6, cells := 0, slots := 0, locals := 142 }
theorem hdX9_fewTurns : yX9_fewTurns.cls ≠ "java/lang/invoke/MethodHandle" ∧ yX9_fewTurns.cls ≠ "java/lang/invoke/VarHandle" ∧ (parseMethodDescriptor yX9_fewTurns.desc).map (fun d => d.parameters.length) = some 3 := by decide +kernel
theorem hvX9_fewTurns : yX9_fewTurns.cls = RX9 ∧ yX9_fewTurns.cls ≠ "java/lang/invoke/MethodHandle" ∧ yX9_fewTurns.cls ≠ "java/lang/invoke/VarHandle" ∧ (parseMethodDescriptor yX9_fewTurns.desc).map (fun d => d.parameters.length) = some 3 := by decide +kernel
abbrev rmX9_leansTold : Room := { frames := 0, cells := 0, slots := 0, locals := 0 }
theorem hdX9_leansTold : yX9_leansTold.cls ≠ "java/lang/invoke/MethodHandle" ∧ yX9_leansTold.cls ≠ "java/lang/invoke/VarHandle" ∧ (parseMethodDescriptor yX9_leansTold.desc).map (fun d => d.parameters.length) = some 0 := by decide +kernel
theorem hvX9_leansTold : yX9_leansTold.cls = RX9 ∧ yX9_leansTold.cls ≠ "java/lang/invoke/MethodHandle" ∧ yX9_leansTold.cls ≠ "java/lang/invoke/VarHandle" ∧ (parseMethodDescriptor yX9_leansTold.desc).map (fun d => d.parameters.length) = some 0 := by decide +kernel
abbrev rmX9_settleNow : Room := { frames := 3, cells := 0, slots := 0, locals := 67 }
theorem hdX9_settleNow : yX9_settleNow.cls ≠ "java/lang/invoke/MethodHandle" ∧ yX9_settleNow.cls ≠ "java/lang/invoke/VarHandle" ∧ (parseMethodDescriptor yX9_settleNow.desc).map (fun d => d.parameters.length) = some 1 := by decide +kernel
theorem hvX9_settleNow : yX9_settleNow.cls = RX9 ∧ yX9_settleNow.cls ≠ "java/lang/invoke/MethodHandle" ∧ yX9_settleNow.cls ≠ "java/lang/invoke/VarHandle" ∧ (parseMethodDescriptor yX9_settleNow.desc).map (fun d => d.parameters.length) = some 1 := by decide +kernel
abbrev rmX9_settle : Room := { frames := 4, cells := 0, slots := 0, locals := 91 }
theorem hdX9_settle : yX9_settle.cls ≠ "java/lang/invoke/MethodHandle" ∧ yX9_settle.cls ≠ "java/lang/invoke/VarHandle" ∧ (parseMethodDescriptor yX9_settle.desc).map (fun d => d.parameters.length) = some 1 := by decide +kernel
theorem hvX9_settle : yX9_settle.cls = RX9 ∧ yX9_settle.cls ≠ "java/lang/invoke/MethodHandle" ∧ yX9_settle.cls ≠ "java/lang/invoke/VarHandle" ∧ (parseMethodDescriptor yX9_settle.desc).map (fun d => d.parameters.length) = some 1 := by decide +kernel
abbrev rmX9_see : Room := { frames := 2, cells := 0, slots := 0, locals := 43 }
theorem hdX9_see : yX9_see.cls ≠ "java/lang/invoke/MethodHandle" ∧ yX9_see.cls ≠ "java/lang/invoke/VarHandle" ∧ (parseMethodDescriptor yX9_see.desc).map (fun d => d.parameters.length) = some 3 := by decide +kernel
theorem hvX9_see : yX9_see.cls = RX9 ∧ yX9_see.cls ≠ "java/lang/invoke/MethodHandle" ∧ yX9_see.cls ≠ "java/lang/invoke/VarHandle" ∧ (parseMethodDescriptor yX9_see.desc).map (fun d => d.parameters.length) = some 3 := by decide +kernel
abbrev rmX9_forget : Room := { frames := 0, cells := 0, slots := 0, locals := 0 }
theorem hdX9_forget : yX9_forget.cls ≠ "java/lang/invoke/MethodHandle" ∧ yX9_forget.cls ≠ "java/lang/invoke/VarHandle" ∧ (parseMethodDescriptor yX9_forget.desc).map (fun d => d.parameters.length) = some 0 := by decide +kernel
theorem hvX9_forget : yX9_forget.cls = RX9 ∧ yX9_forget.cls ≠ "java/lang/invoke/MethodHandle" ∧ yX9_forget.cls ≠ "java/lang/invoke/VarHandle" ∧ (parseMethodDescriptor yX9_forget.desc).map (fun d => d.parameters.length) = some 0 := by decide +kernel
abbrev rmX9_laySums : Room := { frames := 4, cells := 0, slots := 0, locals := 91 }
theorem hdX9_laySums : yX9_laySums.cls ≠ "java/lang/invoke/MethodHandle" ∧ yX9_laySums.cls ≠ "java/lang/invoke/VarHandle" ∧ (parseMethodDescriptor yX9_laySums.desc).map (fun d => d.parameters.length) = some 2 := by decide +kernel
theorem hvX9_laySums : yX9_laySums.cls = RX9 ∧ yX9_laySums.cls ≠ "java/lang/invoke/MethodHandle" ∧ yX9_laySums.cls ≠ "java/lang/invoke/VarHandle" ∧ (parseMethodDescriptor yX9_laySums.desc).map (fun d => d.parameters.length) = some 2 := by decide +kernel
abbrev rmX9_leansOf : Room := { frames := 5, cells := 0, slots := 0, locals := 115 }
theorem hdX9_leansOf : yX9_leansOf.cls ≠ "java/lang/invoke/MethodHandle" ∧ yX9_leansOf.cls ≠ "java/lang/invoke/VarHandle" ∧ (parseMethodDescriptor yX9_leansOf.desc).map (fun d => d.parameters.length) = some 2 := by decide +kernel
theorem hvX9_leansOf : yX9_leansOf.cls = RX9 ∧ yX9_leansOf.cls ≠ "java/lang/invoke/MethodHandle" ∧ yX9_leansOf.cls ≠ "java/lang/invoke/VarHandle" ∧ (parseMethodDescriptor yX9_leansOf.desc).map (fun d => d.parameters.length) = some 2 := by decide +kernel
abbrev rmX9_worstOn : Room := { frames := 1, cells := 0, slots := 0, locals := 21 }
theorem hdX9_worstOn : yX9_worstOn.cls ≠ "java/lang/invoke/MethodHandle" ∧ yX9_worstOn.cls ≠ "java/lang/invoke/VarHandle" ∧ (parseMethodDescriptor yX9_worstOn.desc).map (fun d => d.parameters.length) = some 1 := by decide +kernel
theorem hvX9_worstOn : yX9_worstOn.cls = RX9 ∧ yX9_worstOn.cls ≠ "java/lang/invoke/MethodHandle" ∧ yX9_worstOn.cls ≠ "java/lang/invoke/VarHandle" ∧ (parseMethodDescriptor yX9_worstOn.desc).map (fun d => d.parameters.length) = some 1 := by decide +kernel
abbrev rmX9_askOf : Room := { frames := 6, cells := 0, slots := 0, locals := 141 }
theorem hdX9_askOf : yX9_askOf.cls ≠ "java/lang/invoke/MethodHandle" ∧ yX9_askOf.cls ≠ "java/lang/invoke/VarHandle" ∧ (parseMethodDescriptor yX9_askOf.desc).map (fun d => d.parameters.length) = some 1 := by decide +kernel
theorem hvX9_askOf : yX9_askOf.cls = RX9 ∧ yX9_askOf.cls ≠ "java/lang/invoke/MethodHandle" ∧ yX9_askOf.cls ≠ "java/lang/invoke/VarHandle" ∧ (parseMethodDescriptor yX9_askOf.desc).map (fun d => d.parameters.length) = some 1 := by decide +kernel
abbrev rmX9_draw : Room := { frames := 0, cells := 0, slots := 0, locals := 0 }
theorem hdX9_draw : yX9_draw.cls ≠ "java/lang/invoke/MethodHandle" ∧ yX9_draw.cls ≠ "java/lang/invoke/VarHandle" ∧ (parseMethodDescriptor yX9_draw.desc).map (fun d => d.parameters.length) = some 1 := by decide +kernel
theorem hvX9_draw : yX9_draw.cls = RX9 ∧ yX9_draw.cls ≠ "java/lang/invoke/MethodHandle" ∧ yX9_draw.cls ≠ "java/lang/invoke/VarHandle" ∧ (parseMethodDescriptor yX9_draw.desc).map (fun d => d.parameters.length) = some 1 := by decide +kernel
abbrev rmX9_tidesNow : Room := { frames := 5, cells := 0, slots := 0, locals := 113 }
theorem hdX9_tidesNow : yX9_tidesNow.cls ≠ "java/lang/invoke/MethodHandle" ∧ yX9_tidesNow.cls ≠ "java/lang/invoke/VarHandle" ∧ (parseMethodDescriptor yX9_tidesNow.desc).map (fun d => d.parameters.length) = some 3 := by decide +kernel
theorem hvX9_tidesNow : yX9_tidesNow.cls = RX9 ∧ yX9_tidesNow.cls ≠ "java/lang/invoke/MethodHandle" ∧ yX9_tidesNow.cls ≠ "java/lang/invoke/VarHandle" ∧ (parseMethodDescriptor yX9_tidesNow.desc).map (fun d => d.parameters.length) = some 3 := by decide +kernel
abbrev rmX9_tides : Room := { frames := 6, cells := 0, slots := 0, locals := 142 }
theorem hdX9_tides : yX9_tides.cls ≠ "java/lang/invoke/MethodHandle" ∧ yX9_tides.cls ≠ "java/lang/invoke/VarHandle" ∧ (parseMethodDescriptor yX9_tides.desc).map (fun d => d.parameters.length) = some 3 := by decide +kernel
theorem hvX9_tides : yX9_tides.cls = RX9 ∧ yX9_tides.cls ≠ "java/lang/invoke/MethodHandle" ∧ yX9_tides.cls ≠ "java/lang/invoke/VarHandle" ∧ (parseMethodDescriptor yX9_tides.desc).map (fun d => d.parameters.length) = some 3 := by decide +kernel
abbrev rmX9_image : Room := { frames := 0, cells := 0, slots := 0, locals := 0 }
theorem hdX9_image : yX9_image.cls ≠ "java/lang/invoke/MethodHandle" ∧ yX9_image.cls ≠ "java/lang/invoke/VarHandle" ∧ (parseMethodDescriptor yX9_image.desc).map (fun d => d.parameters.length) = some 0 := by decide +kernel
theorem hvX9_image : yX9_image.cls = RX9 ∧ yX9_image.cls ≠ "java/lang/invoke/MethodHandle" ∧ yX9_image.cls ≠ "java/lang/invoke/VarHandle" ∧ (parseMethodDescriptor yX9_image.desc).map (fun d => d.parameters.length) = some 0 := by decide +kernel
abbrev rmX9_restore : Room := { frames := 0, cells := 0, slots := 0, locals := 0 }
theorem hdX9_restore : yX9_restore.cls ≠ "java/lang/invoke/MethodHandle" ∧ yX9_restore.cls ≠ "java/lang/invoke/VarHandle" ∧ (parseMethodDescriptor yX9_restore.desc).map (fun d => d.parameters.length) = some 0 := by decide +kernel
theorem hvX9_restore : yX9_restore.cls = RX9 ∧ yX9_restore.cls ≠ "java/lang/invoke/MethodHandle" ∧ yX9_restore.cls ≠ "java/lang/invoke/VarHandle" ∧ (parseMethodDescriptor yX9_restore.desc).map (fun d => d.parameters.length) = some 0 := by decide +kernel
abbrev rmX9_weights : Room := { frames := 0, cells := 0, slots := 0, locals := 0 }
theorem hdX9_weights : yX9_weights.cls ≠ "java/lang/invoke/MethodHandle" ∧ yX9_weights.cls ≠ "java/lang/invoke/VarHandle" ∧ (parseMethodDescriptor yX9_weights.desc).map (fun d => d.parameters.length) = some 0 := by decide +kernel
theorem hvX9_weights : yX9_weights.cls = RX9 ∧ yX9_weights.cls ≠ "java/lang/invoke/MethodHandle" ∧ yX9_weights.cls ≠ "java/lang/invoke/VarHandle" ∧ (parseMethodDescriptor yX9_weights.desc).map (fun d => d.parameters.length) = some 0 := by decide +kernel
abbrev rmX9_carriedNow : Room := { frames := 5, cells := 0, slots := 0, locals := 113 }
theorem hdX9_carriedNow : yX9_carriedNow.cls ≠ "java/lang/invoke/MethodHandle" ∧ yX9_carriedNow.cls ≠ "java/lang/invoke/VarHandle" ∧ (parseMethodDescriptor yX9_carriedNow.desc).map (fun d => d.parameters.length) = some 0 := by decide +kernel
theorem hvX9_carriedNow : yX9_carriedNow.cls = RX9 ∧ yX9_carriedNow.cls ≠ "java/lang/invoke/MethodHandle" ∧ yX9_carriedNow.cls ≠ "java/lang/invoke/VarHandle" ∧ (parseMethodDescriptor yX9_carriedNow.desc).map (fun d => d.parameters.length) = some 0 := by decide +kernel
abbrev rmX9_howMany : Room := { frames := 6, cells := 0, slots := 0, locals := 135 }
theorem hdX9_howMany : yX9_howMany.cls ≠ "java/lang/invoke/MethodHandle" ∧ yX9_howMany.cls ≠ "java/lang/invoke/VarHandle" ∧ (parseMethodDescriptor yX9_howMany.desc).map (fun d => d.parameters.length) = some 1 := by decide +kernel
theorem hvX9_howMany : yX9_howMany.cls = RX9 ∧ yX9_howMany.cls ≠ "java/lang/invoke/MethodHandle" ∧ yX9_howMany.cls ≠ "java/lang/invoke/VarHandle" ∧ (parseMethodDescriptor yX9_howMany.desc).map (fun d => d.parameters.length) = some 1 := by decide +kernel
abbrev rmX9_count : Room := { frames := 7, cells := 0, slots := 0, locals := 156 }
theorem hdX9_count : yX9_count.cls ≠ "java/lang/invoke/MethodHandle" ∧ yX9_count.cls ≠ "java/lang/invoke/VarHandle" ∧ (parseMethodDescriptor yX9_count.desc).map (fun d => d.parameters.length) = some 1 := by decide +kernel
theorem hvX9_count : yX9_count.cls = RX9 ∧ yX9_count.cls ≠ "java/lang/invoke/MethodHandle" ∧ yX9_count.cls ≠ "java/lang/invoke/VarHandle" ∧ (parseMethodDescriptor yX9_count.desc).map (fun d => d.parameters.length) = some 1 := by decide +kernel
abbrev rmX9_mix : Room := { frames := 0, cells := 0, slots := 0, locals := 0 }
theorem hdX9_mix : yX9_mix.cls ≠ "java/lang/invoke/MethodHandle" ∧ yX9_mix.cls ≠ "java/lang/invoke/VarHandle" ∧ (parseMethodDescriptor yX9_mix.desc).map (fun d => d.parameters.length) = some 1 := by decide +kernel
theorem hvX9_mix : yX9_mix.cls = RX9 ∧ yX9_mix.cls ≠ "java/lang/invoke/MethodHandle" ∧ yX9_mix.cls ≠ "java/lang/invoke/VarHandle" ∧ (parseMethodDescriptor yX9_mix.desc).map (fun d => d.parameters.length) = some 1 := by decide +kernel
abbrev rmX9_mixQuestion : Room := { frames := 6, cells := 0, slots := 0, locals := 139 }
theorem hdX9_mixQuestion : yX9_mixQuestion.cls ≠ "java/lang/invoke/MethodHandle" ∧ yX9_mixQuestion.cls ≠ "java/lang/invoke/VarHandle" ∧ (parseMethodDescriptor yX9_mixQuestion.desc).map (fun d => d.parameters.length) = some 1 := by decide +kernel
theorem hvX9_mixQuestion : yX9_mixQuestion.cls = RX9 ∧ yX9_mixQuestion.cls ≠ "java/lang/invoke/MethodHandle" ∧ yX9_mixQuestion.cls ≠ "java/lang/invoke/VarHandle" ∧ (parseMethodDescriptor yX9_mixQuestion.desc).map (fun d => d.parameters.length) = some 1 := by decide +kernel
abbrev rmX9_digest : Room := { frames := 8, cells := 0, slots := 0, locals := 190 }
theorem hdX9_digest : yX9_digest.cls ≠ "java/lang/invoke/MethodHandle" ∧ yX9_digest.cls ≠ "java/lang/invoke/VarHandle" ∧ (parseMethodDescriptor yX9_digest.desc).map (fun d => d.parameters.length) = some 0 := by decide +kernel
theorem hvX9_digest : yX9_digest.cls = RX9 ∧ yX9_digest.cls ≠ "java/lang/invoke/MethodHandle" ∧ yX9_digest.cls ≠ "java/lang/invoke/VarHandle" ∧ (parseMethodDescriptor yX9_digest.desc).map (fun d => d.parameters.length) = some 0 := by decide +kernel
