/-! the model's starts -/
theorem q_u_up {I : Nat → Nat → Int32} {o k : Nat} {v : Int32} : q_u I o k v o = q_up (I o) k v := by
  funext b
  unfold q_u q_up
  by_cases e : b = k
  · rw [if_pos ⟨rfl, e⟩, if_pos e]
  · rw [if_neg (fun z => e z.2), if_neg e]
def q_md (I : Nat → Nat → Int32) (n : Nat) (σ0 : q_Sg) (sd : Int32) (th : Bool) (B st : List Nat) : Prop := q_rst I n (q_evs th (st.map (fun p => (0, p))) σ0) sd th ∧ I 130 17 = nI st.length ∧ (∀ i q, st[i]? = some q → I 138 i = nI q) ∧ (∀ q, q < n → q_bt (I 130 16) q = B.contains q) ∧ I 130 14 = 0
def q_mx (I : Nat → Nat → Int32) (n : Nat) (σ0 : q_Sg) (sd : Int32) (th : Bool) (w : List Nat) (b : Nat) (r : q_PR) : Prop := ∃ new, r.2.1 = w ++ new ∧ q_rst I n (q_evs th (r.2.1.map (fun p => (0, p)) ++ (q_bkE r.2.2 ++ new.reverse.map (fun p => (1, p)))) σ0) sd th ∧ I 130 17 = nI w.length ∧ (∀ i q, w[i]? = some q → I 138 i = nI q) ∧ q_mfl I r.2.2 ∧ b + r.2.2.length ≤ 12 ∧ q_lnn n r.2.1 ∧ 0 < r.2.2.length
def q_mB (n : Nat) (σ0 : q_Sg) (th : Bool) (f : Nat) : Prop := ∀ (L D : Nat) (J : Nat → Nat → Int64) (t : Nat) (sd : Int32) (I : Nat → Nat → Int32) (p : Nat) (B st : List Nat), 2 * f + 8 ≤ D → q_md I n σ0 sd th B st → q_pp n σ0.1 B st → p < n → q_rnn σ0.1 st p = false → B.contains p = false → f + B.length = 12 → ∃ I', q_fms I I' ∧ ((q_bring σ0.1 n f p B st).1 = true → q_md I' n σ0 sd th B (q_bring σ0.1 n f p B st).2.1 ∧ q_pp n σ0.1 B (q_bring σ0.1 n f p B st).2.1 ∧ ∃ mid, (q_bring σ0.1 n f p B st).2.1 = st ++ mid) ∧ ((q_bring σ0.1 n f p B st).1 = false → q_mx I' n σ0 sd th st B.length (q_bring σ0.1 n f p B st)) ∧ ∀ {Q : Value → q_Mem → Prop}, q_W D 180 [.ref 130, .int (nI p)] (q_mm L I J t) Q = Q (.int (q_bb (q_bring σ0.1 n f p B st).1)) (q_mm L I' J t)
theorem q_evT {n : Nat} {σ0 : q_Sg} {th : Bool} {B st : List Nat} (h12 : n ≤ 12) (hpp : q_pp n σ0.1 B st) : (∀ b, 12 ≤ b → b < 84 → (q_evs th (st.map (fun p => (0, p))) σ0).1 b = σ0.1 b) ∧ (∀ b, b < 12 → decide ((q_evs th (st.map (fun p => (0, p))) σ0).1 b = 1) = q_rnn σ0.1 st b) ∧ (∀ b, b < 12 → q_rnn σ0.1 st b = false → (q_evs th (st.map (fun p => (0, p))) σ0).1 b = σ0.1 b) ∧ (∀ b, b < 12 → q_rnn σ0.1 st b = true → ¬ (q_evs th (st.map (fun p => (0, p))) σ0).1 b = 0) := by
  have hl : ∀ p, p ∈ st → p < 12 := fun p hp => by
    have := hpp.2.2.2 p hp
    omega
  have h0 := fun b hb => q_ev0_st (th := th) st σ0 b hl hb
  refine ⟨fun b h1 h2 => q_ev0_60 st σ0 b hl h1 h2, fun b hb => ?_, fun b hb hr => ?_, fun b hb hr => ?_⟩
  · rw [h0 b hb]
    unfold q_rnn
    cases hc : st.contains b with
    | true => simp
    | false => simp
  · rw [h0 b hb]
    unfold q_rnn at hr
    rw [Bool.or_eq_false_iff] at hr
    rw [hr.2]
    simp
  · rw [h0 b hb]
    unfold q_rnn at hr
    rw [Bool.or_eq_true, decide_eq_true_eq] at hr
    cases hc : st.contains b with
    | true => simp
    | false =>
      rw [hc] at hr
      rcases hr with hr | hr
      · simp [hr]
      · exact absurd hr (by decide)
theorem q_run_eq2 {n p s : Nat} {σ0 : q_Sg} {th : Bool} {B st : List Nat} (h12 : n ≤ 12) (hpp : q_pp n σ0.1 B st) (hr : q_rnn σ0.1 st p = false) : q_any (fun q => !decide (q = p) && (decide ((q_evs th (st.map (fun p => (0, p))) σ0).1 q = 1) && q_bt ((q_evs th (st.map (fun p => (0, p))) σ0).1 (48 + q)) s)) 0 n = q_smo σ0.1 (q_rnn σ0.1 st) n s := by
  obtain ⟨e1, e2, e3, e4⟩ := q_evT (th := th) h12 hpp
  refine q_any_congr n 0 fun q _ hq => ?_
  rw [e2 q (by omega), e1 (48 + q) (by omega) (by omega)]
  by_cases z : q = p
  · rw [z, hr]
    simp
  · rw [decide_eq_false z, Bool.not_false, Bool.true_and]
theorem q_tk_eq2 {n p s : Nat} {σ0 : q_Sg} {th : Bool} {B st : List Nat} (h12 : n ≤ 12) (hpp : q_pp n σ0.1 B st) (hso : q_smo σ0.1 (q_rnn σ0.1 st) n s = false) : q_tk (q_evs th (st.map (fun p => (0, p))) σ0).1 n p s = q_tk σ0.1 n p s := by
  obtain ⟨e1, e2, e3, e4⟩ := q_evT (th := th) h12 hpp
  have hm : ∀ q, q < n → q_mst (q_evs th (st.map (fun p => (0, p))) σ0).1 q = q_mst σ0.1 q := fun q hq => by
    show q_str _ _ (q_bc _) = q_str _ _ (q_bc _)
    unfold q_tm
    rw [e1 (12 + q) (by omega) (by omega), e1 (24 + q) (by omega) (by omega), e1 (48 + q) (by omega) (by omega)]
  unfold q_smo at hso
  rw [q_any_false] at hso
  unfold q_tk
  refine q_pick_congr (n := n) (fun q hq => ?_) (fun q b hq hb _ _ => ?_) n 0 none (by omega) (fun b e => by injection e) (fun b e => by injection e)
  · unfold q_cIdl
    rw [e1 (48 + q) (by omega) (by omega)]
    have h0 := hso q (Nat.zero_le _) (by omega)
    cases hr : q_rnn σ0.1 st q with
    | false => rw [e3 q (by omega) hr]
    | true =>
      rw [hr, Bool.true_and] at h0
      rw [h0]
      simp
  · unfold q_bTk
    rw [hm q hq, hm b hb, e1 (72 + q) (by omega) (by omega), e1 (72 + b) (by omega) (by omega)]
theorem q_bkE_app {cs : List (Nat × Int32 × Int32)} {x : Nat × Int32 × Int32} (h : 0 < cs.length) : q_bkE (cs ++ [x]) = q_bkE cs := by
  cases cs with
  | nil => exact absurd h (by decide)
  | cons c l => rfl
/-- a fail told here -/
theorem q_mx_here {I : Nat → Nat → Int32} {n b p : Nat} {σ0 : q_Sg} {sd y z : Int32} {th : Bool} {B st : List Nat} (hy : ¬ y = 5) (hb : b < 12) (hmd : q_md I n σ0 sd th B st) (hpp : q_pp n σ0.1 B st) : q_mx (q_mfs I 0 (nI p) y z) n σ0 sd th st b (false, st, [(p, y, z)]) := by
  obtain ⟨a1, a2, a3, a4, a5⟩ := hmd
  refine ⟨[], by rw [List.append_nil], ?_, by rw [q_mfs_b (by decide)]; exact a2, fun i q hq => by rw [q_mfs_o (by decide) (by decide)]; exact a3 i q hq, ?_, by show b + 1 ≤ 12; omega, q_pp_ln hpp, Nat.zero_lt_one⟩
  · have e : q_bkE [(p, y, z)] = [] := by
      exact if_neg hy
    show q_rst _ n (q_evs th (st.map _ ++ (q_bkE [(p, y, z)] ++ [])) σ0) sd th
    rw [e, List.append_nil, List.append_nil]
    exact q_mfs_rst a1
  · have := q_mfl_add (I := I) (cs := []) (p := p) (y := y) (z := z) ⟨a5, fun i p y z hq => absurd hq (by simp)⟩
    exact this
theorem q_mx_next {I : Nat → Nat → Int32} {n b p : Nat} {σ0 : q_Sg} {sd z : Int32} {th ok : Bool} {w st' : List Nat} {cs : List (Nat × Int32 × Int32)} (h : q_mx I n σ0 sd th w (b + 1) (ok, st', cs)) : q_mx (q_mfs I cs.length (nI p) 4 z) n σ0 sd th w b (false, st', cs ++ [(p, 4, z)]) := by
  obtain ⟨new, a1, a2, a3, a4, a5, a6, a7, a8⟩ := h
  dsimp only at a1 a2 a5 a6 a7 a8
  refine ⟨new, a1, ?_, by rw [q_mfs_b (by decide)]; exact a3, fun i q hq => by rw [q_mfs_o (by decide) (by decide)]; exact a4 i q hq, q_mfl_add a5, ?_, a7, ?_⟩
  · show q_rst _ n (q_evs th (st'.map _ ++ (q_bkE (cs ++ [(p, 4, z)]) ++ _)) σ0) sd th
    rw [q_bkE_app a8]
    exact q_mfs_rst a2
  · show b + (cs ++ [(p, 4, z)]).length ≤ 12
    rw [List.length_append, List.length_singleton]
    omega
  · show 0 < (cs ++ [(p, 4, z)]).length
    rw [List.length_append, List.length_singleton]
    omega
theorem l_mneed {L D n f p : Nat} {J : Nat → Nat → Int64} {t : Nat} {σ0 : q_Sg} {sd : Int32} {th : Bool} {B : List Nat} (h12 : n ≤ 12) (hnm : ∀ q, q < n → q_nameok (σ0.1 (72 + q))) (hrec : q_mB n σ0 th f) (hD : 2 * f ≤ D) (hp : p < n) (hf : f + (p :: B).length = 12) : ∀ (k s : Nat) (I : Nat → Nat → Int32) (st : List Nat), s + k = 8 → q_md I n σ0 sd th (p :: B) st → q_pp n σ0.1 (p :: B) st → ∃ I', q_fms I I' ∧ ((q_need (q_bring σ0.1 n f) σ0.1 n p (p :: B) k s st).1 = true → q_md I' n σ0 sd th (p :: B) (q_need (q_bring σ0.1 n f) σ0.1 n p (p :: B) k s st).2.1 ∧ q_pp n σ0.1 (p :: B) (q_need (q_bring σ0.1 n f) σ0.1 n p (p :: B) k s st).2.1 ∧ ∃ mid, (q_need (q_bring σ0.1 n f) σ0.1 n p (p :: B) k s st).2.1 = st ++ mid) ∧ ((q_need (q_bring σ0.1 n f) σ0.1 n p (p :: B) k s st).1 = false → ∃ w mid, w = st ++ mid ∧ q_mx I' n σ0 sd th w B.length (q_need (q_bring σ0.1 n f) σ0.1 n p (p :: B) k s st)) ∧ ∀ (rt : Value → q_Mem → Nat → Nat → Prop) (w3 : Option Value), q_X (q_W (D + 8)) rt 178 (2, [some (.ref 130), some (.int (nI p)), some (.int (nI s)), w3], [], (q_mm L I J t), 0, 0) = rt (.int (q_bb (q_need (q_bring σ0.1 n f) σ0.1 n p (p :: B) k s st).1)) (q_mm L I' J t) 0 0
  | 0, s, I, st, h, hmd, hpp => by
    have : s = 8 := by omega
    subst this
    refine ⟨I, q_fms_refl, fun _ => ⟨hmd, hpp, [], (List.append_nil _).symm⟩, fun z => q_nTF z, fun rt w3 => ?_⟩
    rw [g_M_hasNeeds_2, show (8 : Int32) = nI 8 by decide, q_leN (by decide) (by decide), q_br (Nat.le_refl 8)]
    simp only [q_onI_i, q_onJ_j, q_onS_s, q_onB_t, true_and, and_true, true_or, or_true, eq_self, true_implies, not_true_eq_false, not_false_eq_true, false_implies, q_bb0, q_bbok, q_bbok2, Bool.true_eq_false, Bool.false_eq_true, reduceCtorEq]
    rfl
  | k + 1, s, I, st, h, hmd, hpp => by
    have hp12 : p < 12 := by omega
    obtain ⟨⟨g0, gT, g2, g3, g20, gR, g19⟩, a2, a3, a4, a5⟩ := id hmd
    have hprn : q_rnn σ0.1 st p = false := hpp.2.2.1 p (by simp)
    obtain ⟨e1, e2, e3, e4⟩ := q_evT (th := th) h12 hpp
    rw [List.length_cons] at hf
    have hstep : ∀ (rt : Value → q_Mem → Nat → Nat → Prop) (w3 : Option Value), q_X (q_W (D + 8)) rt 178 (2, [some (.ref 130), some (.int (nI p)), some (.int (nI s)), w3], [], (q_mm L I J t), 0, 0) = q_X (q_W (D + 8)) rt 178 (14, [some (.ref 130), some (.int (nI p)), some (.int (nI s)), w3], [.int (q_bb (q_bt (σ0.1 (36 + p)) s))], (q_mm L I J t), 0, 0) := by
      intro rt w3
      rw [g_M_hasNeeds_2, show (8 : Int32) = nI 8 by decide, q_leN (by decide) (by omega), q_brn (by omega), s_isNeeded hp12 (show s < 31 by omega), q_onI_i, gT, e1 (36 + p) (by omega) (by omega)]
    unfold q_need
    cases hb : q_bt (σ0.1 (36 + p)) s with
    | false =>
      obtain ⟨I', f1, p1, p2, w1⟩ := l_mneed h12 hnm hrec hD hp (by rw [List.length_cons]; exact hf) k (s + 1) I st (by omega) hmd hpp
      refine ⟨I', f1, p1, p2, fun rt w3 => ?_⟩
      rw [hstep, hb, g_M_hasNeeds_14, q_br (show q_bb false = 0 from rfl), q_n1]
      exact w1 rt w3
    | true =>
      have hstep2 : ∀ (rt : Value → q_Mem → Nat → Nat → Prop) (w3 : Option Value), q_X (q_W (D + 8)) rt 178 (2, [some (.ref 130), some (.int (nI p)), some (.int (nI s)), w3], [], (q_mm L I J t), 0, 0) = q_X (q_W (D + 8)) rt 178 (23, [some (.ref 130), some (.int (nI p)), some (.int (nI s)), w3], [.int (q_bb (q_smo σ0.1 (q_rnn σ0.1 st) n s))], (q_mm L I J t), 0, 0) := by
        intro rt w3
        rw [hstep, hb, g_M_hasNeeds_14, q_brn (by decide), s_isRun g0 h12 hp (show s < 31 by omega), q_onI_i, gT, q_run_eq2 h12 hpp hprn]
      dsimp only
      unfold q_ofr
      cases hso : q_smo σ0.1 (q_rnn σ0.1 st) n s with
      | true =>
        obtain ⟨I', f1, p1, p2, w1⟩ := l_mneed h12 hnm hrec hD hp (by rw [List.length_cons]; exact hf) k (s + 1) I st (by omega) hmd hpp
        refine ⟨I', f1, p1, p2, fun rt w3 => ?_⟩
        rw [hstep2, hso, g_M_hasNeeds_23, q_brn (by decide), q_n1]
        exact w1 rt w3
      | false =>
        have hstep3 : ∀ (rt : Value → q_Mem → Nat → Nat → Prop) (w3 : Option Value), q_X (q_W (D + 8)) rt 178 (2, [some (.ref 130), some (.int (nI p)), some (.int (nI s)), w3], [], (q_mm L I J t), 0, 0) = q_X (q_W (D + 8)) rt 178 (35, [some (.ref 130), some (.int (nI p)), some (.int (nI s)), w3], [.int (q_fst (q_tk σ0.1 n p s))], (q_mm L I J t), 0, 0) := by
          intro rt w3
          rw [hstep2, hso, g_M_hasNeeds_23, q_br (show q_bb false = 0 from rfl), s_taken g0 h12 hp (show s < 31 by omega) (fun q hq => by rw [gT, e1 (72 + q) (by omega) (by omega)]; exact hnm q hq), q_onI_i, gT, q_tk_eq2 h12 hpp hso]
        dsimp only
        cases htk : q_tk σ0.1 n p s with
        | none =>
          refine ⟨_, q_mfs_fms (j := 0) (a := nI p) (y := 2) (z := nI s), fun z => q_nFT z, fun _ => ⟨st, [], (List.append_nil _).symm, q_mx_here (by decide) (by omega) hmd hpp⟩, fun rt w3 => ?_⟩
          rw [hstep3, htk, show q_fst none = -1 from rfl, g_M_hasNeeds_35, q_br rfl, s_Mfails (j := 0) a5 (by decide), q_onI_i, g_M_hasNeeds_48]
          simp only [eq_self, true_or, true_and]
          rfl
        | some q =>
          obtain ⟨hq, hrq, hqp, hTq⟩ := q_smo_rn htk hso
          have hq1 : ¬ nI q = -1 := q_nIm1 (by omega)
          dsimp only
          cases hB : (p :: B).contains q with
          | true =>
            refine ⟨_, q_mfs_fms (j := 0) (a := nI p) (y := 3) (z := nI s), fun z => q_nFT z, fun _ => ⟨st, [], (List.append_nil _).symm, q_mx_here (by decide) (by omega) hmd hpp⟩, fun rt w3 => ?_⟩
            rw [hstep3, htk, show q_fst (some q) = nI q from rfl, g_M_hasNeeds_35, q_brn hq1, q_shr1 (show q < 31 by omega), a4 q hq, hB, q_br rfl, s_Mfails (j := 0) a5 (by decide), q_onI_i, g_M_hasNeeds_68]
            simp only [eq_self, true_or, true_and]
            rfl
          | false =>
            dsimp only
            obtain ⟨I1, f1, p1, p2, w1⟩ := hrec L (D + 8) J t sd I q (p :: B) st (by omega) hmd hpp hq hrq hB (by rw [List.length_cons]; exact hf)
            have hcall : ∀ (rt : Value → q_Mem → Nat → Nat → Prop) (w3 : Option Value), q_X (q_W (D + 8)) rt 178 (2, [some (.ref 130), some (.int (nI p)), some (.int (nI s)), w3], [], (q_mm L I J t), 0, 0) = q_X (q_W (D + 8)) rt 178 (74, [some (.ref 130), some (.int (nI p)), some (.int (nI s)), some (.int (nI q))], [.int (q_bb (q_bring σ0.1 n f q (p :: B) st).1)], q_mm L I1 J t, 0, 0) := by
              intro rt w3
              rw [hstep3, htk, show q_fst (some q) = nI q from rfl, g_M_hasNeeds_35, q_brn hq1, q_shr1 (show q < 31 by omega), a4 q hq, hB, q_brn (by decide), w1, q_onI_i]
            revert p1 p2 hcall
            cases hr : q_bring σ0.1 n f q (p :: B) st with
            | mk ok r =>
              obtain ⟨st', cs⟩ := r
              intro p1 p2 hcall
              cases ok with
              | true =>
                obtain ⟨q1, q2, mid, q3⟩ := p1 rfl
                dsimp only at q1 q2 q3 hcall
                obtain ⟨I', f2, r1, r2, w2⟩ := l_mneed h12 hnm hrec hD hp (by rw [List.length_cons]; exact hf) k (s + 1) I1 st' (by omega) q1 q2
                refine ⟨I', q_fms_trans f1 f2, fun z => ?_, fun z => ?_, fun rt w3 => ?_⟩
                · obtain ⟨x1, x2, mid2, x3⟩ := r1 z
                  exact ⟨x1, x2, mid ++ mid2, by rw [← List.append_assoc, ← q3]; exact x3⟩
                · obtain ⟨w, mid2, x1, x2⟩ := r2 z
                  exact ⟨w, mid ++ mid2, by rw [← List.append_assoc, ← q3]; exact x1, x2⟩
                · rw [hcall, g_M_hasNeeds_74, q_brn (by decide), q_n1]
                  exact w2 rt _
              | false =>
                have q1 := p2 rfl
                rw [List.length_cons] at q1
                have hlen := q1.choose_spec.2.2.2.2.2.1
                have h14 := q1.choose_spec.2.2.2.2.1.1
                dsimp only at hlen h14 hcall
                refine ⟨_, q_fms_trans f1 (q_mfs_fms (j := cs.length) (a := nI p) (y := 4) (z := nI s)), fun z => q_nFT z, fun _ => ⟨st, [], (List.append_nil _).symm, q_mx_next q1⟩, fun rt w3 => ?_⟩
                rw [hcall, g_M_hasNeeds_74, q_br (show q_bb false = 0 from rfl), s_Mfails h14 (by omega), q_onI_i, g_M_hasNeeds_84]
                simp only [eq_self, true_or, true_and]
                rfl
