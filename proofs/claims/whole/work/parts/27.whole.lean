set_option maxHeartbeats 4000000 in
/-- the law's walk out of its run on the small machine -/
theorem q_whole2 (HH : ∀ (L : Nat) (xs : Nat → Int32), L ≤ 3584 → q_X (q_W 100) (fun v _ _ _ => v = .int 1) 226 (18, [some (.ref 0), some (.ref 1), some (.ref 130), some (.int 0)], [], q_mm L (q_I00 xs) (fun _ _ => 0) 96, 147, 4805)) {p : Program} {e : Env} {s : State} {m : MethodId} {below : List Frame} {meth : Method} {c : Code} (l : Launch) {b L : Nat} {xs : Nat → Int32} (hL : L ≤ 3584) (C0 : lw_At p s m meth c b L xs) : W p l e room_1 s m #[Value.ref b] below meth c s.heap [] 0 0 (lw_Z below #[Value.ref b] s) (entryFrame m ([Value.ref b] : List Value).toArray 4) := by
  obtain ⟨hx, hb, hr, hml, hown, hts, hX, hbl, hlocks, hgv⟩ := id C0
  obtain ⟨dC, dI, kA, hKK⟩ := q_KK_start hts
  have F : q_Fr p room_1 s m #[Value.ref b] meth c dC dI kA (fun q => s.heap.size ≤ q) L b xs 1 (fun _ => b) 226 :=
    ⟨⟨hx, hb, hml, hown⟩, fun w hw => hts w (List.mem_filter.mp hw).1, hKK, fun q hq => hq, fun _ => ⟨hX, hbl, Nat.not_le.mpr hbl, rfl, Nat.one_pos⟩, ⟨Nat.le_of_ble_eq_true rfl, Nat.le_of_ble_eq_true rfl, Nat.le_of_ble_eq_true rfl, Nat.le_of_ble_eq_true rfl⟩, fun h => absurd h (by decide +kernel)⟩
  have hrt : q_RH p l e room_1 s m #[Value.ref b] below meth c (lw_Z below #[Value.ref b] s) dC dI kA (fun q => s.heap.size ≤ q) L xs 1 (fun _ => b) 226 (fun v _ _ _ => v = .int 1) := by
    refine ⟨fun pc ls x μ uc us ty _ _ hv hc hs hdg => fun ad H locs lsR r => ?_, fun pc ls x μ uc us h => absurd h (by decide +kernel), fun pc ls μ uc us h => absurd h (by decide +kernel)⟩
    have hv2 : x = 1 := by injection hv
    subst hv2
    exact va_forget r.2.1.2.2.2.2 (W.widen (Nat.le_trans hc (Nat.le_of_ble_eq_true rfl)) (Nat.le_trans hs (Nat.le_of_ble_eq_true rfl)) (lw_ret hx hb hr hlocks hdg))
  have hV18 := q_snd_X (d := 100) (by omega) F ⟨Nat.le_of_ble_eq_true rfl, Nat.le_of_ble_eq_true rfl⟩ (q_sound l dC dI kA L xs 100) hrt (HH L xs hL)
  have hV := q_prefix (L := L) (xs := xs) (q_snd_cl (d := 100) (by omega) F ⟨Nat.le_of_ble_eq_true rfl, Nat.le_of_ble_eq_true rfl⟩ (q_sound l dC dI kA L xs 100) hrt) (fun μ hs => q_V_table hs hV18)
  have hok : q_ok L xs (q_mu0 L xs) := ⟨rfl, fun i => rfl, fun o k t h => by cases h⟩
  have h1 := hV (fun _ => b) s.heap [] _ ⟨⟨hok, Nat.le_refl _, fun _ _ => rfl, fun _ => rfl⟩, ⟨fun k q h => by simp [q_world, q_mu0] at h, ⟨fun i j p q h => by simp [q_world, q_mu0] at h, fun k q h => by simp [q_world, q_mu0] at h⟩, va_S.rf⟩, q_LS_entry (as := [.ref 0]) (by decide +kernel) (by decide +kernel)⟩
  rw [lg_entry_eq]
  exact h1
