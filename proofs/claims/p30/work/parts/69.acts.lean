/-! LAYER 2: the actions, class and model alike -/
abbrev eA : String := "java/lang/IllegalArgumentException"
abbrev eS : String := "java/lang/IllegalStateException"
abbrev eI : String := "java/lang/IndexOutOfBoundsException"
theorem u10 : ¬ (1 : Int32) = 0 := by decide
