theorem dL_law_1087 : decode code 1087 = .ok (.ireturn, 1) := by decide +kernel
