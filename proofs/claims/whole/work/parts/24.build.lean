theorem q_t1 : (q_ev 3 100 37 [.ref 1] (q_new q_nu0 5 11)).isSome = true := by decide +kernel
theorem q_t2 : (q_ev 3 100 46 [.ref 1] (q_new q_nu0 6 4)).isSome = true := by decide +kernel
theorem q_t3 : (q_ev 4 1000 71 [.ref 1, .ref 1] (q_new q_nu0 8 2)).isSome = true := by decide +kernel
