/-! the construction, by computation -/
def q_evC : Option (Value × q_Mem) := q_ev 100 1500 77 [.ref 1] (q_new q_nu0 9 14)
def q_nu1 : q_Mem := match q_evC with
  | some r => r.2
  | none => q_nu0
def q_evM : Option (Value × q_Mem) := q_ev 100 1500 132 [.ref 130] (q_new q_nu1 10 37)
def q_nu2 : q_Mem := match q_evM with
  | some r => r.2
  | none => q_nu0
theorem q_evC_ok : q_evC.isSome = true := by decide +kernel
theorem q_evM_ok : q_evM.isSome = true := by decide +kernel
theorem q_nu1_len : q_nu1.1.length = 130 := by decide +kernel
theorem q_nu2_sh : q_nu2.1 = q_SH 0 := by decide +kernel
def q_I0l : List (Nat × Nat × Int32) := [(1, 12, -1), (3, 5, 1), (42, 5, 1), (81, 3, -1), (94, 5, -1), (96, 1, -1), (96, 3, -1), (114, 1, -1), (114, 3, -1), (116, 1, -1), (116, 3, -1), (118, 1, -1), (118, 3, -1), (120, 1, -1), (120, 3, -1), (122, 1, -1), (122, 3, -1), (124, 1, -1), (124, 3, -1), (126, 1, -1), (126, 3, -1), (128, 1, -1), (128, 3, -1), (130, 3, 1), (130, 9, -1), (133, 0, -1), (133, 1, -1), (133, 2, -1), (133, 3, -1), (133, 4, -1), (133, 5, -1), (133, 6, -1), (133, 7, -1)]
def q_I0 (o k : Nat) : Int32 := ((q_I0l.find? fun q => q.1 == o && q.2.1 == k).map fun q => q.2.2).getD 0
theorem q_nu2_I : ((List.range 148).all fun o => o == 0 || ((List.range ((q_SH 0).getD o (0, 0)).2).all fun k => decide (q_nu2.2.1 o k = q_I0 o k))) = true := by decide +kernel
theorem q_nu2_R : ((List.range 148).all fun o => o == 0 || ((List.range ((q_SH 0).getD o (0, 0)).2).all fun k => decide (q_nu2.2.2.2 o k = q_RR 96 o k))) = true := by decide +kernel
theorem q_nu2_J : ((List.range 148).all fun o => !(((q_SH 0).getD o (0, 0)).1 == 101) || ((List.range ((q_SH 0).getD o (0, 0)).2).all fun k => decide (q_nu2.2.2.1 o k = 0))) = true := by decide +kernel
