theorem am_kP0 : ((List.range 1).all fun k => (List.range (am_bd (0 + k))).all fun pc => am_chP (0 + k) pc) = true := by decide +kernel
theorem am_kP1 : ((List.range 19).all fun k => (List.range (am_bd (1 + k))).all fun pc => am_chP (1 + k) pc) = true := by decide +kernel
theorem am_kP2 : ((List.range 19).all fun k => (List.range (am_bd (20 + k))).all fun pc => am_chP (20 + k) pc) = true := by decide +kernel
theorem am_kP3 : ((List.range 16).all fun k => (List.range (am_bd (39 + k))).all fun pc => am_chP (39 + k) pc) = true := by decide +kernel
theorem am_kP4 : ((List.range 17).all fun k => (List.range (am_bd (55 + k))).all fun pc => am_chP (55 + k) pc) = true := by decide +kernel
theorem am_kP5 : ((List.range 17).all fun k => (List.range (am_bd (72 + k))).all fun pc => am_chP (72 + k) pc) = true := by decide +kernel
theorem am_kP6 : ((List.range 16).all fun k => (List.range (am_bd (89 + k))).all fun pc => am_chP (89 + k) pc) = true := by decide +kernel
theorem am_kP7 : ((List.range 15).all fun k => (List.range (am_bd (105 + k))).all fun pc => am_chP (105 + k) pc) = true := by decide +kernel
theorem am_kP8 : ((List.range 15).all fun k => (List.range (am_bd (120 + k))).all fun pc => am_chP (120 + k) pc) = true := by decide +kernel
theorem am_kP9 : ((List.range 13).all fun k => (List.range (am_bd (135 + k))).all fun pc => am_chP (135 + k) pc) = true := by decide +kernel
theorem am_kP10 : ((List.range 14).all fun k => (List.range (am_bd (148 + k))).all fun pc => am_chP (148 + k) pc) = true := by decide +kernel
theorem am_kP11 : ((List.range 17).all fun k => (List.range (am_bd (162 + k))).all fun pc => am_chP (162 + k) pc) = true := by decide +kernel
theorem am_kP12 : ((List.range 17).all fun k => (List.range (am_bd (179 + k))).all fun pc => am_chP (179 + k) pc) = true := by decide +kernel
theorem am_kP13 : ((List.range 11).all fun k => (List.range (am_bd (196 + k))).all fun pc => am_chP (196 + k) pc) = true := by decide +kernel
theorem am_kP14 : ((List.range 10).all fun k => (List.range (am_bd (207 + k))).all fun pc => am_chP (207 + k) pc) = true := by decide +kernel
theorem am_kP15 : ((List.range 18).all fun k => (List.range (am_bd (217 + k))).all fun pc => am_chP (217 + k) pc) = true := by decide +kernel
theorem am_kP16 : ((List.range 9).all fun k => (List.range (am_bd (235 + k))).all fun pc => am_chP (235 + k) pc) = true := by decide +kernel
theorem am_kP17 : ((List.range 10).all fun k => (List.range (am_bd (244 + k))).all fun pc => am_chP (244 + k) pc) = true := by decide +kernel
theorem am_kP18 : ((List.range 7).all fun k => (List.range (am_bd (254 + k))).all fun pc => am_chP (254 + k) pc) = true := by decide +kernel
theorem am_kP19 : ((List.range 3).all fun k => (List.range (am_bd (261 + k))).all fun pc => am_chP (261 + k) pc) = true := by decide +kernel
theorem am_kM0 : ((List.range 44).all fun k => am_chM (1 + k)) = true := by decide +kernel
theorem am_kM1 : ((List.range 44).all fun k => am_chM (45 + k)) = true := by decide +kernel
theorem am_kM2 : ((List.range 44).all fun k => am_chM (89 + k)) = true := by decide +kernel
theorem am_kM3 : ((List.range 44).all fun k => am_chM (133 + k)) = true := by decide +kernel
theorem am_kM4 : ((List.range 44).all fun k => am_chM (177 + k)) = true := by decide +kernel
theorem am_kM5 : ((List.range 43).all fun k => am_chM (221 + k)) = true := by decide +kernel
