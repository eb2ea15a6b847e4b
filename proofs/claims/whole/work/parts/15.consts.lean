theorem kI_m1 : Int32.ofInt (-1) = (-1 : Int32) := by decide
theorem kI_0 : Int32.ofInt (0) = (nI 0) := by decide
theorem kI_1 : Int32.ofInt (1) = (nI 1) := by decide
theorem kI_2 : Int32.ofInt (2) = (nI 2) := by decide
theorem kI_3 : Int32.ofInt (3) = (nI 3) := by decide
theorem kI_4 : Int32.ofInt (4) = (nI 4) := by decide
theorem kI_5 : Int32.ofInt (5) = (nI 5) := by decide
theorem kI_6 : Int32.ofInt (6) = (nI 6) := by decide
theorem kB_m99 : (Int8.ofInt (-99)).toInt32 = (-99 : Int32) := by decide
theorem kB_m3 : (Int8.ofInt (-3)).toInt32 = (-3 : Int32) := by decide
theorem kB_m2 : (Int8.ofInt (-2)).toInt32 = (-2 : Int32) := by decide
theorem kB_6 : (Int8.ofInt (6)).toInt32 = (nI 6) := by decide
theorem kB_7 : (Int8.ofInt (7)).toInt32 = (nI 7) := by decide
theorem kB_8 : (Int8.ofInt (8)).toInt32 = (nI 8) := by decide
theorem kB_9 : (Int8.ofInt (9)).toInt32 = (nI 9) := by decide
theorem kB_10 : (Int8.ofInt (10)).toInt32 = (nI 10) := by decide
theorem kB_11 : (Int8.ofInt (11)).toInt32 = (nI 11) := by decide
theorem kB_12 : (Int8.ofInt (12)).toInt32 = (nI 12) := by decide
theorem kB_13 : (Int8.ofInt (13)).toInt32 = (nI 13) := by decide
theorem kB_14 : (Int8.ofInt (14)).toInt32 = (nI 14) := by decide
theorem kB_15 : (Int8.ofInt (15)).toInt32 = (nI 15) := by decide
theorem kB_16 : (Int8.ofInt (16)).toInt32 = (nI 16) := by decide
theorem kB_31 : (Int8.ofInt (31)).toInt32 = (nI 31) := by decide
theorem kB_40 : (Int8.ofInt (40)).toInt32 = (nI 40) := by decide
theorem kB_63 : (Int8.ofInt (63)).toInt32 = (nI 63) := by decide
theorem kB_80 : (Int8.ofInt (80)).toInt32 = (nI 80) := by decide
theorem kB_81 : (Int8.ofInt (81)).toInt32 = (nI 81) := by decide
theorem kB_99 : (Int8.ofInt (99)).toInt32 = (nI 99) := by decide
theorem kS_133 : (Int16.ofInt (133)).toInt32 = (nI 133) := by decide
theorem kS_481 : (Int16.ofInt (481)).toInt32 = (nI 481) := by decide
theorem kS_962 : (Int16.ofInt (962)).toInt32 = (nI 962) := by decide
theorem kS_963 : (Int16.ofInt (963)).toInt32 = (nI 963) := by decide
theorem kS_1155 : (Int16.ofInt (1155)).toInt32 = (nI 1155) := by decide
theorem kS_4620 : (Int16.ofInt (4620)).toInt32 = (nI 4620) := by decide
theorem kS_5775 : (Int16.ofInt (5775)).toInt32 = (nI 5775) := by decide
