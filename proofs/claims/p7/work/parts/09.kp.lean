theorem am_kL0 : ((List.range 50).all fun k => am_chP 0 (0 + k)) = true := by decide +kernel
theorem am_kL1 : ((List.range 50).all fun k => am_chP 0 (50 + k)) = true := by decide +kernel
theorem am_kL2 : ((List.range 50).all fun k => am_chP 0 (100 + k)) = true := by decide +kernel
theorem am_kL3 : ((List.range 50).all fun k => am_chP 0 (150 + k)) = true := by decide +kernel
theorem am_kL4 : ((List.range 50).all fun k => am_chP 0 (200 + k)) = true := by decide +kernel
theorem am_kL5 : ((List.range 50).all fun k => am_chP 0 (250 + k)) = true := by decide +kernel
theorem am_kL6 : ((List.range 50).all fun k => am_chP 0 (300 + k)) = true := by decide +kernel
theorem am_kL7 : ((List.range 50).all fun k => am_chP 0 (350 + k)) = true := by decide +kernel
theorem am_kL8 : ((List.range 50).all fun k => am_chP 0 (400 + k)) = true := by decide +kernel
theorem am_kL9 : ((List.range 50).all fun k => am_chP 0 (450 + k)) = true := by decide +kernel
theorem am_kL10 : ((List.range 50).all fun k => am_chP 0 (500 + k)) = true := by decide +kernel
theorem am_kL11 : ((List.range 50).all fun k => am_chP 0 (550 + k)) = true := by decide +kernel
theorem am_kL12 : ((List.range 50).all fun k => am_chP 0 (600 + k)) = true := by decide +kernel
theorem am_kL13 : ((List.range 50).all fun k => am_chP 0 (650 + k)) = true := by decide +kernel
theorem am_kL14 : ((List.range 50).all fun k => am_chP 0 (700 + k)) = true := by decide +kernel
theorem am_kL15 : ((List.range 50).all fun k => am_chP 0 (750 + k)) = true := by decide +kernel
theorem am_kL16 : ((List.range 50).all fun k => am_chP 0 (800 + k)) = true := by decide +kernel
theorem am_kL17 : ((List.range 50).all fun k => am_chP 0 (850 + k)) = true := by decide +kernel
theorem am_kL18 : ((List.range 50).all fun k => am_chP 0 (900 + k)) = true := by decide +kernel
theorem am_kL19 : ((List.range 50).all fun k => am_chP 0 (950 + k)) = true := by decide +kernel
theorem am_kL20 : ((List.range 50).all fun k => am_chP 0 (1000 + k)) = true := by decide +kernel
theorem am_kL21 : ((List.range 50).all fun k => am_chP 0 (1050 + k)) = true := by decide +kernel
theorem am_kL22 : ((List.range 50).all fun k => am_chP 0 (1100 + k)) = true := by decide +kernel
theorem am_kL23 : ((List.range 50).all fun k => am_chP 0 (1150 + k)) = true := by decide +kernel
theorem am_kL24 : ((List.range 50).all fun k => am_chP 0 (1200 + k)) = true := by decide +kernel
theorem am_kL25 : ((List.range 50).all fun k => am_chP 0 (1250 + k)) = true := by decide +kernel
theorem am_kL26 : ((List.range 50).all fun k => am_chP 0 (1300 + k)) = true := by decide +kernel
theorem am_kL27 : ((List.range 50).all fun k => am_chP 0 (1350 + k)) = true := by decide +kernel
theorem am_kP1 : ((List.range 19).all fun k => (List.range (am_bd (1 + k))).all fun pc => am_chP (1 + k) pc) = true := by decide +kernel
theorem am_kP2 : ((List.range 19).all fun k => (List.range (am_bd (20 + k))).all fun pc => am_chP (20 + k) pc) = true := by decide +kernel
theorem am_kP3 : ((List.range 16).all fun k => (List.range (am_bd (39 + k))).all fun pc => am_chP (39 + k) pc) = true := by decide +kernel
theorem am_kP4 : ((List.range 17).all fun k => (List.range (am_bd (55 + k))).all fun pc => am_chP (55 + k) pc) = true := by decide +kernel
theorem am_kP5 : ((List.range 17).all fun k => (List.range (am_bd (72 + k))).all fun pc => am_chP (72 + k) pc) = true := by decide +kernel
theorem am_kP6 : ((List.range 16).all fun k => (List.range (am_bd (89 + k))).all fun pc => am_chP (89 + k) pc) = true := by decide +kernel
theorem am_kP7 : ((List.range 15).all fun k => (List.range (am_bd (105 + k))).all fun pc => am_chP (105 + k) pc) = true := by decide +kernel
theorem am_kP8 : ((List.range 15).all fun k => (List.range (am_bd (120 + k))).all fun pc => am_chP (120 + k) pc) = true := by decide +kernel
theorem am_kP9 : ((List.range 13).all fun k => (List.range (am_bd (135 + k))).all fun pc => am_chP (135 + k) pc) = true := by decide +kernel
theorem am_kP10 : ((List.range 14).all fun k => (List.range (am_bd (148 + k))).all fun pc => am_chP (148 + k) pc) = true := by decide +kernel
theorem am_kP11 : ((List.range 17).all fun k => (List.range (am_bd (162 + k))).all fun pc => am_chP (162 + k) pc) = true := by decide +kernel
theorem am_kP12 : ((List.range 17).all fun k => (List.range (am_bd (179 + k))).all fun pc => am_chP (179 + k) pc) = true := by decide +kernel
theorem am_kP13 : ((List.range 11).all fun k => (List.range (am_bd (196 + k))).all fun pc => am_chP (196 + k) pc) = true := by decide +kernel
theorem am_kP14 : ((List.range 10).all fun k => (List.range (am_bd (207 + k))).all fun pc => am_chP (207 + k) pc) = true := by decide +kernel
theorem am_kP15 : ((List.range 18).all fun k => (List.range (am_bd (217 + k))).all fun pc => am_chP (217 + k) pc) = true := by decide +kernel
theorem am_kP16 : ((List.range 9).all fun k => (List.range (am_bd (235 + k))).all fun pc => am_chP (235 + k) pc) = true := by decide +kernel
theorem am_kP17 : ((List.range 10).all fun k => (List.range (am_bd (244 + k))).all fun pc => am_chP (244 + k) pc) = true := by decide +kernel
theorem am_kP18 : ((List.range 7).all fun k => (List.range (am_bd (254 + k))).all fun pc => am_chP (254 + k) pc) = true := by decide +kernel
theorem am_kP19 : ((List.range 3).all fun k => (List.range (am_bd (261 + k))).all fun pc => am_chP (261 + k) pc) = true := by decide +kernel
theorem am_kM0 : ((List.range 44).all fun k => am_chM (1 + k)) = true := by decide +kernel
theorem am_kM1 : ((List.range 44).all fun k => am_chM (45 + k)) = true := by decide +kernel
theorem am_kM2 : ((List.range 44).all fun k => am_chM (89 + k)) = true := by decide +kernel
theorem am_kM3 : ((List.range 44).all fun k => am_chM (133 + k)) = true := by decide +kernel
theorem am_kM4 : ((List.range 44).all fun k => am_chM (177 + k)) = true := by decide +kernel
theorem am_kM5 : ((List.range 43).all fun k => am_chM (221 + k)) = true := by decide +kernel
