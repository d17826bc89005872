/-! the model's starts do what the plan says -/
theorem q_rst_16 {I : Nat → Nat → Int32} {n : Nat} {σ : q_Sg} {sd v : Int32} {th : Bool} (h : q_rst I n σ sd th) : q_rst (q_u I 130 16 v) n σ sd th := by
  unfold q_rst at h ⊢
  rw [q_u_nk (show (0 : Nat) ≠ 16 by decide), q_u_nk (show (2 : Nat) ≠ 16 by decide), q_u_nk (show (3 : Nat) ≠ 16 by decide), q_u_nk (show (20 : Nat) ≠ 16 by decide), q_u_nk (show (19 : Nat) ≠ 16 by decide), q_u_ne (show (131 : Nat) ≠ 130 by decide), q_u_ne (show (139 : Nat) ≠ 130 by decide)]
  exact h
theorem q_fms_16 {I : Nat → Nat → Int32} {v : Int32} : q_fms I (q_u I 130 16 v) := ⟨fun o h1 _ _ _ _ => q_u_ne h1, fun b _ _ h _ _ => q_u_nk h⟩
theorem q_bkE_le {cs : List (Nat × Int32 × Int32)} : (q_bkE cs).length ≤ 1 := by
  cases cs with
  | nil => exact Nat.zero_le _
  | cons c l =>
    show (if c.2.1 = 5 then [(2, c.1)] else []).length ≤ 1
    by_cases h : c.2.1 = 5
    · rw [if_pos h]; exact Nat.le_refl _
    · rw [if_neg h]; exact Nat.zero_le _
theorem m_starts {n : Nat} {σ0 : q_Sg} {th : Bool} (h12 : n ≤ 12) (hnm : ∀ q, q < n → q_nameok (σ0.1 (72 + q))) (hk : σ0.2.2.1 < 2 ^ 28) : ∀ f, q_mB n σ0 th f
  | 0 => fun L D J t sd I p B st hD hmd hpp hp hrn hB hf => by
    have := (q_pp_in hp hrn hB hpp).2.1
    omega
  | f + 1 => fun L D J t sd I p B st hD hmd hpp hp hrn hB hf => by
    obtain ⟨D', rfl⟩ : ∃ D', D = D' + 10 := ⟨D - 10, by omega⟩
    obtain ⟨hpp', hBn, hsn⟩ := q_pp_in hp hrn hB hpp
    obtain ⟨hrst, a2, a3, a4, a5⟩ := id hmd
    have hp12 : p < 12 := by omega
    obtain ⟨e1, e2, e3, e4⟩ := q_evT (th := th) h12 hpp
    have hTp : I 131 p = σ0.1 p := by rw [hrst.2.1]; exact e3 p hp12 hrn
    unfold q_bring
    have hent : ∀ {Q : Value → q_Mem → Prop}, q_W (D' + 10) 180 [.ref 130, .int (nI p)] (q_mm L I J t) Q = ((σ0.1 p = 0 → q_X (q_W (D' + 8)) (fun v μ' _ _ => q_onI False v fun x' => q_X (q_W (D' + 9)) (fun v μ _ _ => Q v μ) 180 (38, [some (.ref 130), some (.int (nI p)), some (.int (nI st.length)), none], [.int x'], μ', 0, 0)) 178 (2, [some (.ref 130), some (.int (nI p)), some (.int (nI 0)), none], [], q_mm L (q_u I 130 16 (I 130 16 ||| ((1 : Int32) <<< (nI p &&& 31)))) J t, 0, 0)) ∧ (¬ σ0.1 p = 0 → Q (.int 0) (q_mm L (q_mfs I 0 (nI p) 1 (-1)) J t))) := by
      intro Q
      rw [e_M_starts, s_state (show p < 108 by omega), q_onI_i, g_M_starts_5, hTp, a2, e_M_hasNeeds, show (0 : Int32) = nI 0 by decide, s_Mfails (j := 0) a5 (by decide), q_onI_i, g_M_starts_15]
      simp only [eq_self, true_or, true_and, show nI 0 = (0 : Int32) by decide]
    cases hT : decide (σ0.1 p = 0) with
    | false =>
      have hT' := of_decide_eq_false hT
      refine ⟨_, q_mfs_fms (j := 0) (a := nI p) (y := 1) (z := -1), fun z => q_nFT z, fun _ => q_mx_here (by decide) (by omega) hmd hpp, fun {Q} => ?_⟩
      rw [hent, q_brn hT']
      rfl
    | true =>
      have hT' := of_decide_eq_true hT
      have hmd1 : q_md (q_u I 130 16 (I 130 16 ||| ((1 : Int32) <<< (nI p &&& 31)))) n σ0 sd th (p :: B) st := by
        refine ⟨q_rst_16 hrst, by rw [q_u_nk (by decide)]; exact a2, fun i q hq => by rw [q_u_ne (by decide)]; exact a3 i q hq, fun q hq => ?_, by rw [q_u_nk (by decide)]; exact a5⟩
        rw [q_u_eq, q_bt_or, a4 q hq, q_bt_one p (by omega) q (by omega), q_con_cons]
      obtain ⟨I2, f2, p1, p2, w2⟩ := l_mneed (L := L) (J := J) (t := t) (D := D') h12 hnm (m_starts h12 hnm hk f) (by omega) hp (by rw [List.length_cons]; omega) 8 0 _ st (by decide) hmd1 hpp'
      have f02 : q_fms I I2 := q_fms_trans q_fms_16 f2
      have hent2 : ∀ {Q : Value → q_Mem → Prop}, q_W (D' + 10) 180 [.ref 130, .int (nI p)] (q_mm L I J t) Q = q_X (q_W (D' + 9)) (fun v μ _ _ => Q v μ) 180 (38, [some (.ref 130), some (.int (nI p)), some (.int (nI st.length)), none], [.int (q_bb (q_need (q_bring σ0.1 n f) σ0.1 n p (p :: B) 8 0 st).1)], q_mm L I2 J t, 0, 0) := by
        intro Q
        rw [hent, q_br hT', w2, q_onI_i]
      clear hent w2
      dsimp only
      revert p1 p2 hent2
      cases hr : q_need (q_bring σ0.1 n f) σ0.1 n p (p :: B) 8 0 st with
      | mk ok r =>
        obtain ⟨st', cs⟩ := r
        intro p1 p2 hent2
        dsimp only at hent2
        cases ok with
        | false =>
          obtain ⟨w, mid, hw, new, m1, m2, m3, m4, m5, m6, m7, m8⟩ := p2 rfl
          dsimp only at m1 m2 m5 m6 m7 m8
          have hl7 := m7.1
          have hlen : st'.length = st.length + mid.length + new.length := by rw [m1, hw, List.length_append, List.length_append]
          have hwl : w.length = st.length + mid.length := by rw [hw, List.length_append]
          have hkk := q_evs_kle (th := th) (st'.map (fun p => (0, p)) ++ (q_bkE cs ++ new.reverse.map (fun p => (1, p)))) σ0
          rw [List.length_append, List.length_append, List.length_map, List.length_map, List.length_reverse] at hkk
          have hb1 := q_bkE_le (cs := cs)
          obtain ⟨I4, r4, i17, i138, i137, i14, f4, w4⟩ := l_pop (L := L) (d := D' + 8) (J := J) (t := t) (x1 := nI p) (w := st.length) mid.length mid (q_u I2 130 16 (I2 130 16 &&& (((1 : Int32) <<< (nI p &&& 31)) ^^^ (-1 : Int32)))) _ rfl (by omega) (fun i q hq => by
            rw [q_u_ne (by decide)]
            refine m4 _ q ?_
            rw [hw, List.getElem?_append, if_neg (by omega), show st.length + i - st.length = i by omega]
            exact hq) (fun q hq => by
            have := m7.2 q (by rw [m1, hw]; simp [hq])
            omega) (q_rst_16 m2) (by rw [q_u_nk (by decide), m3, hwl]) (by omega)
          refine ⟨I4, q_fms_trans f02 (q_fms_trans q_fms_16 f4), fun z => q_nFT z, fun _ => ⟨mid ++ new, ?_, ?_, i17, fun i q hq => ?_, ?_, ?_, m7, m8⟩, fun {Q} => ?_⟩
          · show st' = st ++ (mid ++ new)
            rw [m1, hw, List.append_assoc]
          · show q_rst I4 n (q_evs th (st'.map _ ++ (q_bkE cs ++ (mid ++ new).reverse.map _)) σ0) sd th
            rw [List.reverse_append, List.map_append, ← List.append_assoc (q_bkE cs), ← List.append_assoc, q_evs_app]
            exact r4
          · rw [i138, q_u_ne (by decide)]
            refine m4 i q ?_
            have hi : i < st.length := (List.getElem?_eq_some_iff.mp hq).1
            rw [hw, List.getElem?_append, if_pos hi]
            exact hq
          · unfold q_mfl
            rw [i14, i137, q_u_nk (by decide), q_u_ne (by decide)]
            exact m5
          · show B.length + cs.length ≤ 12
            exact m6
          · rw [hent2, g_M_starts_38, q_br (show q_bb false = 0 from rfl)]
            exact w4 _
        | true =>
          obtain ⟨hmd2, hpp2, mid, hmid⟩ := p1 rfl
          dsimp only at hmd2 hpp2 hmid
          obtain ⟨hrst2, b2, b3, b4, b5⟩ := id hmd2
          have hln := q_pp_ln hpp2
          have hout := q_pp_out hp hB hpp hpp2
          have hln2 := q_pp_ln hout
          rw [q_lnn, List.length_append, List.length_singleton] at hln2
          have hlt : st'.length < 12 := by omega
          obtain ⟨u1, u2, u3, u4⟩ := q_evT (th := th) h12 hpp2
          have hFt := u1 (60 + p) (by omega) (by omega)
          have hkk := q_evs_kle (th := th) (st'.map (fun p => (0, p))) σ0
          rw [List.length_map] at hkk
          have hent3 : ∀ {Q : Value → q_Mem → Prop}, q_W (D' + 10) 180 [.ref 130, .int (nI p)] (q_mm L I J t) Q = q_W (D' + 9) 179 [.ref 130, .int (nI p)] (q_mm L I2 J t) (fun v μ' => q_onI False v fun x' => q_X (q_W (D' + 9)) (fun v μ _ _ => Q v μ) 180 (46, [some (.ref 130), some (.int (nI p)), some (.int (nI st.length)), none], [.int x'], μ', 0, 0)) := by
            intro Q
            rw [hent2, g_M_starts_38, q_brn (by decide)]
          cases hF : decide (σ0.1 (60 + p) ≤ 0) with
          | true =>
            have hF' := of_decide_eq_true hF
            obtain ⟨I3, r3, i17, i138, i16, i14, f3, w3⟩ := m_runs_ok (L := L) (d := D' + 6) (J := J) (t := t) hp12 hrst2 (by rw [hFt]; exact hF') b2 hlt (by omega)
            refine ⟨q_u I3 130 16 (I3 130 16 &&& (((1 : Int32) <<< (nI p &&& 31)) ^^^ (-1 : Int32))), q_fms_trans f02 (q_fms_trans f3 q_fms_16), fun _ => ⟨⟨?_, ?_, fun i q hq => ?_, fun q hq => ?_, ?_⟩, hout, mid ++ [p], ?_⟩, fun z => q_nTF z, fun {Q} => ?_⟩
            · show q_rst _ n (q_evs th ((st' ++ [p]).map _) σ0) sd th
              rw [List.map_append, q_evs_app]
              exact q_rst_16 r3
            · show _ = nI (st' ++ [p]).length
              rw [q_u_nk (by decide), i17, List.length_append, List.length_singleton]
            · rw [q_u_ne (by decide), i138]
              have := q_idx_add (I := q_tm (I2 138)) (o := 138) (p := p) b3 i q hq
              rw [q_u_up] at this
              exact this
            · rw [q_u_eq, q_bt_and, i16, b4 q hq, q_bt_not p (by omega) q (by omega), q_con_cons]
              by_cases e : q = p
              · rw [e, hB, decide_eq_true rfl]
                rfl
              · rw [decide_eq_false e, Bool.or_false, Bool.not_false, Bool.and_true]
            · rw [q_u_nk (by decide), i14]; exact b5
            · show st' ++ [p] = _
              rw [hmid, List.append_assoc]
            · rw [hent3, w3, q_onI_i, g_M_starts_46, q_brn (by decide), g_M_starts_69, q_brn (by decide)]
              simp only [q_onI_i, q_onJ_j, q_onS_s, q_onB_t, true_and, and_true, true_or, or_true, eq_self, true_implies, not_true_eq_false, not_false_eq_true, false_implies, q_bb0, q_bbok, q_bbok2, Bool.true_eq_false, Bool.false_eq_true, reduceCtorEq]
              rfl
          | false =>
            have hF' := of_decide_eq_false hF
            obtain ⟨I3, r3, i17, i138, ifl, f3, w3⟩ := m_runs_no (L := L) (d := D' + 6) (J := J) (t := t) hp12 hrst2 (by rw [hFt]; exact hF') b5 (by omega)
            have hlen : st'.length = st.length + mid.length := by rw [hmid, List.length_append]
            have hkk3 : (q_evt th (q_evs th (st'.map (fun p => (0, p))) σ0) (2, p)).2.2.1 ≤ (q_evs th (st'.map (fun p => (0, p))) σ0).2.2.1 + 1 := q_evs_kle (th := th) [(2, p)] (q_evs th (st'.map (fun p => (0, p))) σ0)
            obtain ⟨I4, r4, j17, j138, j137, j14, f4, w4⟩ := l_pop (L := L) (d := D' + 8) (J := J) (t := t) (x1 := nI p) (w := st.length) mid.length mid (q_u I3 130 16 (I3 130 16 &&& (((1 : Int32) <<< (nI p &&& 31)) ^^^ (-1 : Int32)))) _ rfl (by omega) (fun i q hq => by
              rw [q_u_ne (by decide), i138]
              refine b3 _ q ?_
              rw [hmid, List.getElem?_append, if_neg (by omega), show st.length + i - st.length = i by omega]
              exact hq) (fun q hq => by
              have := hln.2 q (by rw [hmid]; simp [hq])
              omega) (q_rst_16 r3) (by rw [q_u_nk (by decide), i17, b2, hlen]) (by omega)
            refine ⟨I4, q_fms_trans f02 (q_fms_trans f3 (q_fms_trans q_fms_16 f4)), fun z => q_nFT z, fun _ => ⟨mid, hmid, ?_, j17, fun i q hq => ?_, ?_, ?_, hln, Nat.zero_lt_one⟩, fun {Q} => ?_⟩
            · show q_rst I4 n (q_evs th (st'.map _ ++ ([(2, p)] ++ mid.reverse.map _)) σ0) sd th
              rw [q_evs_app, q_evs_app]
              exact r4
            · rw [j138, q_u_ne (by decide), i138]
              refine b3 i q ?_
              have hi : i < st.length := (List.getElem?_eq_some_iff.mp hq).1
              rw [hmid, List.getElem?_append, if_pos hi]
              exact hq
            · unfold q_mfl
              rw [j14, j137, q_u_nk (by decide), q_u_ne (by decide)]
              exact ifl
            · show B.length + 1 ≤ 12
              omega
            · rw [hent3, w3, q_onI_i, g_M_starts_46, q_br rfl]
              exact w4 _
theorem m_begins {L D n p : Nat} {I : Nat → Nat → Int32} {J : Nat → Nat → Int64} {t : Nat} {σ0 : q_Sg} {sd : Int32} {th : Bool} (h12 : n ≤ 12) (h : q_rst I n σ0 sd th) (hnm : ∀ q, q < n → q_nameok (σ0.1 (72 + q))) (hk : σ0.2.2.1 < 2 ^ 28) (hp : p < n) (hT : ¬ σ0.1 p = 1) : ∃ I', q_fms I I' ∧ q_rst I' n (q_evs th (q_tse (q_bring σ0.1 n 12 p [] [])) σ0) sd th ∧ ((q_bring σ0.1 n 12 p [] []).1 = true → I' 130 17 = nI (q_bring σ0.1 n 12 p [] []).2.1.length ∧ ∀ i q, (q_bring σ0.1 n 12 p [] []).2.1[i]? = some q → I' 138 i = nI q) ∧ ((q_bring σ0.1 n 12 p [] []).1 = false → q_mfl I' (q_bring σ0.1 n 12 p [] []).2.2 ∧ (q_bring σ0.1 n 12 p [] []).2.2.length ≤ 12) ∧ ∀ {Q : Value → q_Mem → Prop}, q_W (D + 33) 181 [.ref 130, .int (nI p)] (q_mm L I J t) Q = Q (.int (q_bb (q_bring σ0.1 n 12 p [] []).1)) (q_mm L I' J t) := by
  have f0 : q_fms I (q_u (q_u (q_u I 130 16 0) 130 17 0) 130 14 0) := ⟨fun o h1 _ _ _ _ => by rw [q_u_ne h1, q_u_ne h1, q_u_ne h1], fun b _ h2 h3 h4 _ => by rw [q_u_nk h2, q_u_nk h4, q_u_nk h3]⟩
  have hmd : q_md (q_u (q_u (q_u I 130 16 0) 130 17 0) 130 14 0) n σ0 sd th [] [] := by
    refine ⟨?_, ?_, fun i q hq => absurd hq (by simp), fun q hq => ?_, q_u_eq⟩
    · obtain ⟨a, b, c, d, e, f, g⟩ := h
      exact ⟨by rw [q_u_nk (by decide), q_u_nk (by decide), q_u_nk (by decide)]; exact a, by rw [q_u_ne (by decide), q_u_ne (by decide), q_u_ne (by decide)]; exact b, by rw [q_u_nk (by decide), q_u_nk (by decide), q_u_nk (by decide)]; exact c, by rw [q_u_nk (by decide), q_u_nk (by decide), q_u_nk (by decide)]; exact d, by rw [q_u_nk (by decide), q_u_nk (by decide), q_u_nk (by decide)]; exact e, fun i hi => by rw [q_u_ne (by decide), q_u_ne (by decide), q_u_ne (by decide)]; exact f i hi, by rw [q_u_nk (by decide), q_u_nk (by decide), q_u_nk (by decide)]; exact g⟩
    · rw [q_u_nk (by decide), q_u_eq]; rfl
    · rw [q_u_nk (by decide), q_u_nk (by decide), q_u_eq, q_bt_0]
      simp
  have hpp : q_pp n σ0.1 [] [] := by
    refine ⟨rfl, ?_, fun b hb => absurd hb (by simp), fun z hz => absurd hz (by simp)⟩
    unfold q_ct
    rw [List.length_nil, q_cnt_0, q_any_false]
    intro q _ _
    simp
  obtain ⟨I', f1, p1, p2, w1⟩ := m_starts (th := th) h12 hnm hk 12 L (D + 32) J t sd _ p [] [] (by omega) hmd hpp hp (by simp [q_rnn, hT]) (by simp) rfl
  have hc : ∀ {Q : Value → q_Mem → Prop}, q_W (D + 33) 181 [.ref 130, .int (nI p)] (q_mm L I J t) Q = Q (.int (q_bb (q_bring σ0.1 n 12 p [] []).1)) (q_mm L I' J t) := by
    intro Q
    rw [e_M_begins, w1, q_onI_i, g_M_begins_20]
    simp only [q_bbok, true_and]
  refine ⟨I', q_fms_trans f0 f1, ?_, ?_, ?_, hc⟩
  · unfold q_tse
    revert p1 p2
    cases q_bring σ0.1 n 12 p [] [] with
    | mk ok r =>
      obtain ⟨st, cs⟩ := r
      intro p1 p2
      cases ok with
      | true =>
        show q_rst I' n (q_evs th (st.map _ ++ []) σ0) sd th
        rw [List.append_nil]
        exact (p1 rfl).1.1
      | false =>
        obtain ⟨new, m1, m2, -⟩ := p2 rfl
        dsimp only at m1 m2
        rw [List.nil_append] at m1
        rw [← m1] at m2
        exact m2
  · intro z
    exact ⟨(p1 z).1.2.1, (p1 z).1.2.2.1⟩
  · intro z
    obtain ⟨new, m1, m2, m3, m4, m5, m6, m7, m8⟩ := p2 z
    exact ⟨m5, by rw [List.length_nil] at m6; omega⟩
