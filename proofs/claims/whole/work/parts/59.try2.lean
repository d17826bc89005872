/-! tryStart -/
def q_bkE (cs : List (Nat × Int32 × Int32)) : List (Nat × Nat) := match cs with
  | [] => []
  | c :: _ => if c.2.1 = 5 then [(2, c.1)] else []
def q_tse (r : q_PR) : List (Nat × Nat) := r.2.1.map (fun p => (0, p)) ++ (match r.1 with
  | true => []
  | false => q_bkE r.2.2 ++ r.2.1.reverse.map (fun p => (1, p)))
/-- who breaks has faults, and is there -/
def q_bok (n : Nat) (T : Nat → Int32) (cs : List (Nat × Int32 × Int32)) : Prop := ∀ c l, cs = c :: l → c.2.1 = 5 → c.1 < n ∧ ¬ T (60 + c.1) ≤ 0
theorem q_bok_nil {n : Nat} {T : Nat → Int32} : q_bok n T [] := fun c l h => by cases h
theorem q_bok_app {n : Nat} {T : Nat → Int32} {cs : List (Nat × Int32 × Int32)} {x : Nat × Int32 × Int32} (hx : ¬ x.2.1 = 5) (h : q_bok n T cs) : q_bok n T (cs ++ [x]) := fun c l e h5 => by
  cases cs with
  | nil =>
    injection e with e1 e2
    rw [← e1] at h5
    exact absurd h5 hx
  | cons c' l' =>
    injection e with e1 e2
    exact h c l' (by rw [e1]) h5
theorem q_bok_one {n : Nat} {T : Nat → Int32} {x : Nat × Int32 × Int32} (hx : x.2.1 = 5 → x.1 < n ∧ ¬ T (60 + x.1) ≤ 0) : q_bok n T [x] := fun c l e h5 => by
  injection e with e1 e2
  rw [← e1] at h5 ⊢
  exact hx h5
theorem q_ofr_bok {n p s : Nat} {T : Nat → Int32} {B st : List Nat} {rc : Nat → List Nat → List Nat → q_PR} (hrc : ∀ q B st, q < n → q_bok n T (rc q B st).2.2) : q_bok n T (q_ofr rc T n p B s st).2.2 := by
  unfold q_ofr
  cases q_smo T (q_rnn T st) n s with
  | true => exact q_bok_nil
  | false =>
    dsimp only
    cases htk : q_tk T n p s with
    | none => exact q_bok_one fun h => absurd h (show ¬ (2 : Int32) = 5 by decide)
    | some q =>
      dsimp only
      cases B.contains q with
      | true => exact q_bok_one fun h => absurd h (show ¬ (3 : Int32) = 5 by decide)
      | false =>
        have h := hrc q B st (q_tk_so htk).1
        dsimp only
        revert h
        cases rc q B st with
        | mk ok r =>
          obtain ⟨st', cs⟩ := r
          intro h
          cases ok with
          | true => exact q_bok_nil
          | false => exact q_bok_app (show ¬ (4 : Int32) = 5 by decide) h
theorem q_need_bok {n p : Nat} {T : Nat → Int32} {B : List Nat} {rc : Nat → List Nat → List Nat → q_PR} (hrc : ∀ q B st, q < n → q_bok n T (rc q B st).2.2) : ∀ (k s : Nat) (st : List Nat), q_bok n T (q_need rc T n p B k s st).2.2
  | 0, _, _ => q_bok_nil
  | k + 1, s, st => by
    unfold q_need
    cases q_bt (T (36 + p)) s with
    | false => exact q_need_bok hrc k (s + 1) st
    | true =>
      have h := q_ofr_bok (p := p) (s := s) (B := B) (st := st) hrc
      dsimp only
      revert h
      cases q_ofr rc T n p B s st with
      | mk ok r =>
        obtain ⟨st', cs⟩ := r
        intro h
        cases ok with
        | true => exact q_need_bok hrc k (s + 1) st'
        | false => exact h
theorem q_bring_bok {n : Nat} {T : Nat → Int32} : ∀ (f p : Nat) (B st : List Nat), p < n → q_bok n T (q_bring T n f p B st).2.2
  | 0, _, _, _, _ => q_bok_nil
  | f + 1, p, B, st, hp => by
    unfold q_bring
    cases decide (T p = 0) with
    | false => exact q_bok_one fun h => absurd h (show ¬ (1 : Int32) = 5 by decide)
    | true =>
      have h := q_need_bok (n := n) (T := T) (rc := q_bring T n f) (p := p) (B := p :: B) (fun q B st hq => q_bring_bok (n := n) (T := T) f q B st hq) 8 0 st
      dsimp only
      revert h
      cases q_need (q_bring T n f) T n p (p :: B) 8 0 st with
      | mk ok r =>
        obtain ⟨st', cs⟩ := r
        intro h
        cases ok with
        | false => exact h
        | true =>
          dsimp only
          cases hF : decide (T (60 + p) ≤ 0) with
          | true => exact q_bok_nil
          | false => exact q_bok_one fun _ => ⟨hp, of_decide_eq_false hF⟩
/-- faults are left alone by starts -/
theorem q_ev0_60 {th : Bool} : ∀ (l : List Nat) (σ : q_Sg) (b : Nat), (∀ p, p ∈ l → p < 12) → 12 ≤ b → b < 84 → (q_evs th (l.map (fun p => (0, p))) σ).1 b = σ.1 b
  | [], _, _, _, _, _ => rfl
  | p :: l, σ, b, h, h1, h2 => by
    rw [List.map_cons, q_evs_cons, q_ev0_60 l _ b (fun q hq => h q (List.mem_cons_of_mem _ hq)) h1 h2]
    have := h p List.mem_cons_self
    show q_up (q_up σ.1 p 1) (84 + p) σ.2.1 b = σ.1 b
    rw [q_up_ne (by omega), q_up_ne (by omega)]
section TRY2
variable {L d : Nat} {J : Nat → Nat → Int64} {t : Nat}
theorem l_try {n m : Nat} {sd : Int32} (h12 : n ≤ 12) (hm : m ≤ 12) : ∀ (l : List Nat) (i : Nat) (I : Nat → Nat → Int32) (σ : q_Sg), (∀ j p, l[j]? = some p → I 82 (i + j) = nI p) → (∀ p, p ∈ l → p < n) → i + l.length = m → I 81 2 = nI m → q_rs I n σ sd → σ.2.2.1 + l.length < 2 ^ 29 → ∃ I', q_rs I' n (q_evs false (l.map (fun p => (0, p))) σ) sd ∧ q_fcs I I' ∧ ∀ (rt : Value → q_Mem → Nat → Nat → Prop) (x1 x2 : Int32), q_X (q_W (d + 2)) rt 125 (11, [some (.ref 1), some (.int x1), some (.int x2), some (.int (nI i))], [], (q_mm L I J t), 0, 0) = q_X (q_W (d + 2)) rt 125 (11, [some (.ref 1), some (.int x1), some (.int x2), some (.int (nI m))], [], q_mm L I' J t, 0, 0)
  | [], i, I, σ, _, _, h, _, hr, _ => by
    rw [List.length_nil, Nat.add_zero] at h
    subst h
    exact ⟨I, hr, q_fcs_refl, fun _ _ _ => rfl⟩
  | p :: l, i, I, σ, h82, hl, h, h2, hr, hk => by
    rw [List.length_cons] at h hk
    have hp := hl p List.mem_cons_self
    obtain ⟨I1, r1, f1, w1⟩ := c_run (L := L) (J := J) (t := t) (d := d) h12 hr hp (by omega)
    obtain ⟨I', r2, f2, w2⟩ := l_try h12 hm l (i + 1) I1 (q_evt false σ (0, p)) (fun j q hq => by
      rw [f1.1 82 (by decide) (by decide) (by decide) (by decide), show i + 1 + j = i + (j + 1) by omega]
      exact h82 (j + 1) q hq) (fun q hq => hl q (List.mem_cons_of_mem _ hq)) (by omega) (by rw [f1.1 81 (by decide) (by decide) (by decide) (by decide)]; exact h2) r1 (by show σ.2.2.1 + 1 + l.length < _; omega)
    refine ⟨I', r2, q_fcs_trans f1 f2, fun rt x1 x2 => ?_⟩
    have h0 := h82 0 p rfl
    rw [Nat.add_zero] at h0
    rw [g_C_tryStart_11, h2, q_leN (by omega) (by omega), q_brn (by omega)]
    simp only [q_clamp (show i < 2 ^ 31 by omega), q_bnd (show i < 12 by omega) (by decide), true_and, h0, w1, g_C_tryStart_35, q_n1, w2]
theorem q_m1 {k : Nat} : nI k + -1 = nI k - 1 := by
  rw [Int32.sub_eq_add_neg]
theorem l_stst {n : Nat} {sd : Int32} (h12 : n ≤ 12) : ∀ (m : Nat) (w : List Nat) (I : Nat → Nat → Int32) (σ : q_Sg), w.length = m → m ≤ 12 → (∀ j p, w[j]? = some p → I 82 j = nI p) → (∀ p, p ∈ w → p < n) → q_rs I n σ sd → σ.2.2.1 + m < 2 ^ 29 → ∃ I', q_rs I' n (q_evs false (w.reverse.map (fun p => (1, p))) σ) sd ∧ q_fcs I I' ∧ ∀ (rt : Value → q_Mem → Nat → Nat → Prop), q_X (q_W (d + 2)) rt 126 (10, [some (.ref 1), some (.int (nI m - 1))], [], (q_mm L I J t), 0, 0) = rt .null (q_mm L I' J t) 0 0
  | 0, w, I, σ, h, _, _, _, hr, _ => by
    rw [List.length_eq_zero_iff] at h
    subst h
    refine ⟨I, hr, q_fcs_refl, fun rt => ?_⟩
    rw [g_C_stopStarted_10, q_br (by decide)]
  | m + 1, w, I, σ, h, hm, h82, hl, hr, hk => by
    rcases List.eq_nil_or_concat w with e | ⟨w', p, e⟩
    · rw [e] at h
      exact absurd h (by simp)
    · rw [List.concat_eq_append] at e
      subst e
      rw [List.length_append, List.length_singleton] at h
      have hp := hl p (by simp)
      have h0 : I 82 m = nI p := h82 m p (by rw [List.getElem?_append, if_neg (by omega), show m - w'.length = 0 by omega]; rfl)
      obtain ⟨I1, r1, f1, w1⟩ := c_idl (L := L) (J := J) (t := t) (d := d) h12 hr hp (by omega)
      obtain ⟨I', r2, f2, w2⟩ := l_stst h12 m w' I1 (q_evt false σ (1, p)) (by omega) (by omega) (fun j q hq => by
        rw [f1.1 82 (by decide) (by decide) (by decide) (by decide)]
        have hj : j < w'.length := (List.getElem?_eq_some_iff.mp hq).1
        exact h82 j q (by rw [List.getElem?_append, if_pos hj]; exact hq)) (fun q hq => hl q (List.mem_append_left _ hq)) r1 (by show σ.2.2.1 + 1 + m < _; omega)
      refine ⟨I', ?_, q_fcs_trans f1 f2, fun rt => ?_⟩
      · rw [List.reverse_append, List.reverse_singleton, List.singleton_append, List.map_cons, q_evs_cons]
        exact r2
      · rw [g_C_stopStarted_10, nI_pred, q_brn (nI_pos (by omega))]
        simp only [q_clamp (show m < 2 ^ 31 by omega), q_bnd (show m < 12 by omega) (by decide), true_and, h0, w1, g_C_stopStarted_27, q_m1, w2]
theorem c_try {n p : Nat} {σ : q_Sg} {sd : Int32} {I : Nat → Nat → Int32} (h12 : n ≤ 12) (h : q_rs I n σ sd) (hp : p < n) (hT : ¬ σ.1 p = 1) (hk : σ.2.2.1 < 2 ^ 28) : ∃ I', q_rs I' n (q_evs false (q_tse (q_bring σ.1 n 12 p [] [])) σ) sd ∧ q_fc I I' ∧ ((q_bring σ.1 n 12 p [] []).1 = true → I' 81 2 = nI (q_bring σ.1 n 12 p [] []).2.1.length ∧ ∀ i q, (q_bring σ.1 n 12 p [] []).2.1[i]? = some q → I' 82 i = nI q) ∧ ((q_bring σ.1 n 12 p [] []).1 = false → q_pf I' 0 (q_bring σ.1 n 12 p [] []).2.1 (q_bring σ.1 n 12 p [] []).2.2) ∧ q_lnn n (q_bring σ.1 n 12 p [] []).2.1 ∧ ∀ {Q : Value → q_Mem → Prop}, q_W (d + 32) 125 [.ref 1, .int (nI p)] (q_mm L I J t) Q = Q (.int (q_bb (q_bring σ.1 n 12 p [] []).1)) (q_mm L I' J t) := by
  obtain ⟨a, b, c, e, f, g⟩ := id h
  obtain ⟨I1, f1, p1, w1⟩ := s_make (L := L) (D := d) (J := J) (t := t) h12 a b hp hT
  have hbok := q_bring_bok (T := σ.1) (n := n) 12 p [] [] hp
  have hs1 : q_rs I1 n σ sd := q_rc_congr h12 (fun o h1 h2 h3 h4 h5 h6 h7 h8 => f1 o h2 h3 h4) h
  have hc := fun (Q : Value → q_Mem → Prop) => (show q_W (d + 32) 125 [.ref 1, .int (nI p)] (q_mm L I J t) Q = q_X (q_W (d + 31)) (fun v μ _ _ => Q v μ) 125 (11, [some (.ref 1), some (.int (nI p)), some (.int (q_bb (q_bring σ.1 n 12 p [] []).1)), some (.int (nI 0))], [], q_mm L I1 J t, 0, 0) from by
    rw [e_C_tryStart, w1, q_onI_i, g_C_tryStart_8, show (0 : Int32) = nI 0 by decide])
  revert hc p1 hbok
  cases hr : q_bring σ.1 n 12 p [] [] with
  | mk ok r =>
    obtain ⟨st, cs⟩ := r
    intro p1 hbok hc
    dsimp only at hc hbok ⊢
    unfold q_pst at p1
    dsimp only at p1
    have hall : I1 81 2 = nI st.length ∧ (∀ i q, st[i]? = some q → I1 82 i = nI q) ∧ q_lnn n st := by
      cases ok with
      | true => exact ⟨(p1.1 rfl).1.2.2.1, (p1.1 rfl).1.2.2.2.1, q_pp_ln (p1.1 rfl).2⟩
      | false => exact ⟨(p1.2 rfl).1.1, (p1.2 rfl).1.2.1, (p1.2 rfl).2⟩
    obtain ⟨h2, h82, hln⟩ := hall
    have hln' := hln.1
    obtain ⟨I2, r2, f2, w2⟩ := l_try (L := L) (J := J) (t := t) (d := d + 29) h12 (show st.length ≤ 12 by omega) st 0 I1 σ (fun j q hq => by rw [Nat.zero_add]; exact h82 j q hq) hln.2 (by omega) h2 hs1 (by omega)
    have hend : ∀ (I3 : Nat → Nat → Int32) (rt : Value → q_Mem → Nat → Nat → Prop) (b : Bool) (x1 x3 : Int32), q_X (q_W (d + 31)) rt 125 (60, [some (.ref 1), some (.int x1), some (.int (q_bb b)), some (.int x3)], [], q_mm L I3 J t, 0, 0) = rt (.int (q_bb b)) (q_mm L I3 J t) 0 0 := by
      intro I3 rt b x1 x3
      rw [g_C_tryStart_60]
      simp only [q_bbok, true_and]
    have h2' : I2 81 2 = nI st.length := by rw [f2.1 81 (by decide) (by decide) (by decide) (by decide)]; exact h2
    have e82 : I2 82 = I1 82 := f2.1 82 (by decide) (by decide) (by decide) (by decide)
    cases ok with
    | true =>
      refine ⟨I2, ?_, q_fc_trans (q_fpl_fc f1) (q_fcs_fc f2), fun _ => ⟨h2', fun i q hq => by rw [e82]; exact h82 i q hq⟩, fun z => q_nTF z, hln, fun {Q} => ?_⟩
      · unfold q_tse
        dsimp only
        rw [List.append_nil]
        exact r2
      · rw [hc, w2, g_C_tryStart_11, h2', q_leN (by omega) (by omega), q_br (Nat.le_refl _), q_brn (by decide)]
        exact hend I2 _ true _ _
    | false =>
      obtain ⟨hpf, -⟩ := p1.2 rfl
      have h3 : I2 81 3 = q_brk cs := by rw [f2.1 81 (by decide) (by decide) (by decide) (by decide)]; exact hpf.2.2.2.2.2.2
      have hbk : ∃ I3, q_rs I3 n (q_evs false (q_bkE cs) (q_evs false (st.map (fun p => (0, p))) σ)) sd ∧ q_fcs I2 I3 ∧ (q_bkE cs).length ≤ 1 ∧ ∀ {Q : Value → q_Mem → Prop}, q_W (d + 31) 129 [.ref 1, .int (q_brk cs)] (q_mm L I2 J t) Q = Q .null (q_mm L I3 J t) := by
        have hno : ∀ {Q : Value → q_Mem → Prop}, q_W (d + 31) 129 [.ref 1, .int (-1)] (q_mm L I2 J t) Q = Q .null (q_mm L I2 J t) := by
          intro Q
          rw [e_C_breakDown, s_hasPlug r2.1 h12, q_onI_i, g_C_breakDown_8, show q_in (-1) (n : Int) = false from decide_eq_false (fun z => absurd z.1 (by decide)), q_br (by decide), g_C_breakDown_54]
        cases cs with
        | nil => exact ⟨I2, r2, q_fcs_refl, by decide, hno⟩
        | cons c l =>
          unfold q_brk q_bkE
          dsimp only
          by_cases h5 : c.2.1 = 5
          · obtain ⟨hc1, hc2⟩ := hbok c l rfl h5
            rw [if_pos h5, if_pos h5]
            obtain ⟨I3, r3, f3, w3⟩ := c_brk (L := L) (J := J) (t := t) (d := d + 29) h12 r2 hc1 (by rw [q_ev0_60 st σ _ (fun p hp => by have := hln.2 p hp; omega) (by omega) (by omega)]; exact hc2) (by rw [q_evs_k, List.length_map]; omega)
            exact ⟨I3, r3, f3, Nat.le_refl 1, w3⟩
          · rw [if_neg h5, if_neg h5]
            exact ⟨I2, r2, q_fcs_refl, by decide, hno⟩
      obtain ⟨I3, r3, f3, hlen, w3⟩ := hbk
      have e82' : I3 82 = I1 82 := by rw [f3.1 82 (by decide) (by decide) (by decide) (by decide), e82]
      obtain ⟨I4, r4, f4, w4⟩ := l_stst (L := L) (J := J) (t := t) (d := d + 28) h12 st.length st I3 _ rfl (by omega) (fun j q hq => by rw [e82']; exact h82 j q hq) hln.2 r3 (by rw [q_evs_k, q_evs_k, List.length_map]; omega)
      have f14 : q_fcs I1 I4 := q_fcs_trans f2 (q_fcs_trans f3 f4)
      have e81 : I4 81 = I1 81 := f14.1 81 (by decide) (by decide) (by decide) (by decide)
      have e83 : I4 83 = I1 83 := f14.1 83 (by decide) (by decide) (by decide) (by decide)
      have e824 : I4 82 = I1 82 := f14.1 82 (by decide) (by decide) (by decide) (by decide)
      refine ⟨I4, ?_, q_fc_trans (q_fpl_fc f1) (q_fcs_fc f14), fun z => q_nFT z, fun _ => ?_, hln, fun {Q} => ?_⟩
      · unfold q_tse
        dsimp only
        rw [q_evs_app, q_evs_app]
        exact r4
      · unfold q_pf
        rw [e81, e83, e824]
        exact hpf
      · have e3 : I3 81 2 = nI st.length := by rw [f3.1 81 (by decide) (by decide) (by decide) (by decide)]; exact h2'
        rw [hc, w2, g_C_tryStart_11, h2', q_leN (by omega) (by omega), q_br (Nat.le_refl _), q_br (show q_bb false = 0 from rfl), h3, w3, g_C_tryStart_56, e_C_stopStarted, e3, w4]
        exact hend I4 _ false _ _
end TRY2
