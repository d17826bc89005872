theorem q_ckL84 : q_ckB 228 84 = true := by decide +kernel
theorem q_ckL85 : q_ckB 228 85 = true := by decide +kernel
theorem q_ckL86 : q_ckB 228 86 = true := by decide +kernel
theorem q_ckL87 : q_ckB 228 87 = true := by decide +kernel
theorem q_ckL88 : q_ckB 228 88 = true := by decide +kernel
theorem q_ckL89 : q_ckB 228 89 = true := by decide +kernel
theorem q_ckL90 : q_ckB 228 90 = true := by decide +kernel
theorem q_ckL91 : q_ckB 228 91 = true := by decide +kernel
