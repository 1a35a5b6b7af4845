/-! d0: more small constants -/
theorem KB_100 : (Int8.ofInt (100)).toInt32 = ((100) : Int32) := by decide +kernel
theorem KB_21 : (Int8.ofInt (21)).toInt32 = ((21) : Int32) := by decide +kernel
theorem KB_45 : (Int8.ofInt (45)).toInt32 = ((45) : Int32) := by decide +kernel
theorem KB_m10 : (Int8.ofInt (-10)).toInt32 = ((-10) : Int32) := by decide +kernel
theorem KB_m100 : (Int8.ofInt (-100)).toInt32 = ((-100) : Int32) := by decide +kernel
theorem KB_m9 : (Int8.ofInt (-9)).toInt32 = ((-9) : Int32) := by decide +kernel
theorem KI_16 : Int32.ofInt (16) = ((16) : Int32) := by decide +kernel
theorem KI_20 : Int32.ofInt (20) = ((20) : Int32) := by decide +kernel
theorem KI_8 : Int32.ofInt (8) = ((8) : Int32) := by decide +kernel
theorem KS_200 : (Int16.ofInt (200)).toInt32 = ((200) : Int32) := by decide +kernel
theorem KS_256 : (Int16.ofInt (256)).toInt32 = ((256) : Int32) := by decide +kernel
theorem KS_340 : (Int16.ofInt (340)).toInt32 = ((340) : Int32) := by decide +kernel
theorem KS_370 : (Int16.ofInt (370)).toInt32 = ((370) : Int32) := by decide +kernel
theorem KS_400 : (Int16.ofInt (400)).toInt32 = ((400) : Int32) := by decide +kernel
theorem KS_4095 : (Int16.ofInt (4095)).toInt32 = ((4095) : Int32) := by decide +kernel
theorem KS_460 : (Int16.ofInt (460)).toInt32 = ((460) : Int32) := by decide +kernel
theorem KS_900 : (Int16.ofInt (900)).toInt32 = ((900) : Int32) := by decide +kernel
