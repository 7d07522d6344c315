theorem dL_law_1260 : decode code 1260 = .ok (.ifCond .eq 5, 3) := by decide +kernel
theorem dL_law_1263 : decode code 1263 = .ok (.iconst 0, 1) := by decide +kernel
theorem dL_law_1264 : decode code 1264 = .ok (.ireturn, 1) := by decide +kernel
theorem dL_law_1265 : decode code 1265 = .ok (.goto 3, 3) := by decide +kernel
theorem dL_law_1268 : decode code 1268 = .ok (.iinc 4 6, 3) := by decide +kernel
theorem dL_law_1271 : decode code 1271 = .ok (.goto (-1248), 3) := by decide +kernel
theorem dL_law_1274 : decode code 1274 = .ok (.iconst 1, 1) := by decide +kernel
theorem dL_law_1275 : decode code 1275 = .ok (.ireturn, 1) := by decide +kernel
