/-! the model's starts: its parts -/
def q_rst (I : Nat → Nat → Int32) (n : Nat) (σ : q_Sg) (sd : Int32) (th : Bool) : Prop := I 130 0 = nI n ∧ I 131 = σ.1 ∧ I 130 2 = σ.2.1 ∧ I 130 3 = sd ∧ I 130 20 = nI σ.2.2.1 ∧ (∀ i, i < 40 → I 139 i = σ.2.2.2 i) ∧ I 130 19 = q_bb th
def q_fms (I I' : Nat → Nat → Int32) : Prop := (∀ o, o ≠ 130 → o ≠ 131 → o ≠ 137 → o ≠ 138 → o ≠ 139 → I' o = I o) ∧ ∀ b, b ≠ 2 → b ≠ 14 → b ≠ 16 → b ≠ 17 → b ≠ 20 → I' 130 b = I 130 b
theorem q_fms_refl {I : Nat → Nat → Int32} : q_fms I I := ⟨fun _ _ _ _ _ _ => rfl, fun _ _ _ _ _ _ => rfl⟩
theorem q_fms_trans {I I1 I2 : Nat → Nat → Int32} (h1 : q_fms I I1) (h2 : q_fms I1 I2) : q_fms I I2 := ⟨fun o a b c d e => (h2.1 o a b c d e).trans (h1.1 o a b c d e), fun x a b c d e => (h2.2 x a b c d e).trans (h1.2 x a b c d e)⟩
theorem q_fms_fm {I I' : Nat → Nat → Int32} (h : q_fms I I') : q_fm I I' := ⟨fun o a b c d e _ _ => h.1 o a b c d e, h.2 4 (by decide) (by decide) (by decide) (by decide) (by decide), h.2 9 (by decide) (by decide) (by decide) (by decide) (by decide), h.2 12 (by decide) (by decide) (by decide) (by decide) (by decide), h.2 30 (by decide) (by decide) (by decide) (by decide) (by decide), h.2 32 (by decide) (by decide) (by decide) (by decide) (by decide), h.2 34 (by decide) (by decide) (by decide) (by decide) (by decide)⟩
def q_lgm (th : Bool) (I : Nat → Nat → Int32) (k : Nat) (v : Int32) : Nat → Nat → Int32 := match th with
  | true => I
  | false => q_u (q_u I 139 (k % 40) v) 130 20 (nI (k + 1))
theorem q_lgm_o {th : Bool} {I : Nat → Nat → Int32} {k : Nat} {v : Int32} {o : Nat} (h1 : o ≠ 130) (h2 : o ≠ 139) : q_lgm th I k v o = I o := by
  cases th with
  | true => rfl
  | false =>
    show q_u (q_u I 139 (k % 40) v) 130 20 (nI (k + 1)) o = I o
    rw [q_u_ne h1, q_u_ne h2]
theorem q_lgm_b {th : Bool} {I : Nat → Nat → Int32} {k : Nat} {v : Int32} {b : Nat} (h1 : b ≠ 20) : q_lgm th I k v 130 b = I 130 b := by
  cases th with
  | true => rfl
  | false =>
    show q_u (q_u I 139 (k % 40) v) 130 20 (nI (k + 1)) 130 b = I 130 b
    rw [q_u_nk h1, q_u_ne (by decide)]
theorem q_rst_log {th : Bool} {I : Nat → Nat → Int32} {n : Nat} {T : Nat → Int32} {ck sd : Int32} {k : Nat} {R : Nat → Int32} {e : Nat} (h : q_rst I n (T, ck, k, R) sd th) : q_rst (q_lgm th I k (nI e)) n (T, ck, q_evk th k, q_evR th k R e) sd th := by
  obtain ⟨a, b, c, d, e', f, g⟩ := h
  refine ⟨by rw [q_lgm_b (by decide)]; exact a, by rw [q_lgm_o (by decide) (by decide)]; exact b, by rw [q_lgm_b (by decide)]; exact c, by rw [q_lgm_b (by decide)]; exact d, ?_, fun i hi => ?_, by rw [q_lgm_b (by decide)]; exact g⟩
  · cases th with
    | true => exact e'
    | false => exact q_u_eq
  · cases th with
    | true => exact f i hi
    | false =>
      show q_u (q_u I 139 (k % 40) (nI e)) 130 20 (nI (k + 1)) 139 i = q_up R (k % 40) (nI e) i
      rw [q_u_ne (by decide)]
      by_cases z : i = k % 40
      · subst z
        rw [q_u_eq, q_up_eq]
      · rw [q_u_nk z, q_up_ne z]
        exact f i hi
theorem q_evs_kle {th : Bool} : ∀ (es : List (Nat × Nat)) (σ : q_Sg), (q_evs th es σ).2.2.1 ≤ σ.2.2.1 + es.length
  | [], _ => Nat.le_refl _
  | e :: es, σ => by
    rw [q_evs_cons, List.length_cons]
    have h := q_evs_kle (th := th) es (q_evt th σ e)
    have h2 : (q_evt th σ e).2.2.1 ≤ σ.2.2.1 + 1 := by
      show q_evk th σ.2.2.1 ≤ _
      cases th
      · exact Nat.le_refl _
      · exact Nat.le_succ _
    omega
theorem q_ev0_st {th : Bool} : ∀ (l : List Nat) (σ : q_Sg) (b : Nat), (∀ p, p ∈ l → p < 12) → b < 12 → (q_evs th (l.map (fun p => (0, p))) σ).1 b = if l.contains b = true then 1 else σ.1 b
  | [], _, _, _, _ => by simp [q_evs]
  | p :: l, σ, b, h, h1 => by
    rw [List.map_cons, q_evs_cons, q_ev0_st l _ b (fun q hq => h q (List.mem_cons_of_mem _ hq)) h1, q_con_cons]
    have hp := h p List.mem_cons_self
    have e : (q_evt th σ (0, p)).1 b = if b = p then 1 else σ.1 b := by
      show q_up (q_up σ.1 p 1) (84 + p) σ.2.1 b = _
      rw [q_up_ne (by omega)]
      rfl
    rw [e]
    cases hc : l.contains b with
    | true => simp
    | false =>
      by_cases z : b = p
      · simp [z]
      · simp [z]
def q_mfs (I : Nat → Nat → Int32) (j : Nat) (a y z : Int32) : Nat → Nat → Int32 := q_u (q_u (q_u (q_u I 137 (3 * j) a) 137 (3 * j + 1) y) 137 (3 * j + 2) z) 130 14 (nI (j + 1))
def q_mfl (I : Nat → Nat → Int32) (cs : List (Nat × Int32 × Int32)) : Prop := I 130 14 = nI cs.length ∧ ∀ i p y z, cs[i]? = some (p, y, z) → I 137 (3 * i) = nI p ∧ I 137 (3 * i + 1) = y ∧ I 137 (3 * i + 2) = z
theorem q_mfs_o {I : Nat → Nat → Int32} {j : Nat} {a y z : Int32} {o : Nat} (h1 : o ≠ 130) (h2 : o ≠ 137) : q_mfs I j a y z o = I o := by
  unfold q_mfs
  rw [q_u_ne h1, q_u_ne h2, q_u_ne h2, q_u_ne h2]
theorem q_mfs_b {I : Nat → Nat → Int32} {j : Nat} {a y z : Int32} {b : Nat} (h1 : b ≠ 14) : q_mfs I j a y z 130 b = I 130 b := by
  unfold q_mfs
  rw [q_u_nk h1, q_u_ne (by decide), q_u_ne (by decide), q_u_ne (by decide)]
theorem q_mfs_fms {I : Nat → Nat → Int32} {j : Nat} {a y z : Int32} : q_fms I (q_mfs I j a y z) := ⟨fun o a _ c _ _ => q_mfs_o a c, fun b _ h _ _ _ => q_mfs_b h⟩
theorem q_mfs_rst {I : Nat → Nat → Int32} {n j : Nat} {a y z sd : Int32} {σ : q_Sg} {th : Bool} (h : q_rst I n σ sd th) : q_rst (q_mfs I j a y z) n σ sd th := by
  unfold q_rst at h ⊢
  rw [q_mfs_b (by decide), q_mfs_b (by decide), q_mfs_b (by decide), q_mfs_b (by decide), q_mfs_b (by decide), q_mfs_o (by decide) (by decide), q_mfs_o (by decide) (by decide)]
  exact h
theorem q_mfl_add {I : Nat → Nat → Int32} {cs : List (Nat × Int32 × Int32)} {p : Nat} {y z : Int32} (h : q_mfl I cs) : q_mfl (q_mfs I cs.length (nI p) y z) (cs ++ [(p, y, z)]) := by
  refine ⟨by unfold q_mfs; rw [q_u_eq, List.length_append, List.length_singleton], fun i p' y' z' hq => ?_⟩
  unfold q_mfs
  rw [List.getElem?_append] at hq
  by_cases hi : i < cs.length
  · rw [if_pos hi] at hq
    rw [q_u_ne (by decide), q_u_nk (by omega), q_u_nk (by omega), q_u_nk (by omega), q_u_nk (by omega), q_u_nk (by omega), q_u_nk (by omega), q_u_nk (by omega), q_u_nk (by omega), q_u_nk (by omega)]
    exact h.2 i p' y' z' hq
  · rw [if_neg hi] at hq
    cases hj : i - cs.length with
    | succ j => rw [hj] at hq; exact absurd hq (by simp)
    | zero =>
      rw [hj] at hq
      simp only [List.getElem?_cons_zero, Option.some.injEq, Prod.mk.injEq] at hq
      obtain ⟨rfl, rfl, rfl⟩ := hq
      have e : i = cs.length := by omega
      subst e
      rw [q_u_ne (by decide)]
      refine ⟨?_, ?_, ?_⟩
      · rw [q_u_nk (by omega), q_u_nk (by omega), q_u_eq]
      · rw [q_u_nk (by omega), q_u_eq]
      · rw [q_u_eq]
section MST1
variable {L d : Nat} {I : Nat → Nat → Int32} {J : Nat → Nat → Int64} {t : Nat}
theorem s_logs2 {Q : Value → q_Mem → Prop} {k : Nat} {v : Int32} {th : Bool} (h19 : I 130 19 = q_bb th) (h20 : I 130 20 = nI k) (hk : k < 2 ^ 30) : q_W (d + 1) 173 [.ref 130, .int v] (q_mm L I J t) Q = Q .null (q_mm L (q_lgm th I k v) J t) := by
  rw [e_M_logs, h19, h20]
  cases th with
  | true => rw [q_brn (by decide)]; rfl
  | false =>
    rw [q_br (show q_bb false = 0 from rfl), q_mod40 (by omega)]
    simp only [q_clamp (show k % 40 < 2 ^ 31 by omega), q_bnd (show k % 40 < 40 by omega) (by decide), true_and, show ¬ (40 : Int32) = 0 by decide, not_false_eq_true]
    rw [q_u_ne (show (130 : Nat) ≠ 139 by decide), h20, q_n1]
    rfl
theorem s_Mfails {Q : Value → q_Mem → Prop} {j : Nat} {a y z : Int32} (hI : I 130 14 = nI j) (hj : j < 12) : q_W (d + 1) 177 [.ref 130, .int a, .int y, .int z] (q_mm L I J t) Q = Q (.int 0) (q_mm L (q_mfs I j a y z) J t) := by
  rw [e_M_fails]
  have e1 : q_u I 137 (3 * nI j).toNatClampNeg a 130 14 = nI j := by rw [q_u_ne (by decide)]; exact hI
  rw [hI, e1]
  have e2 : q_u (q_u I 137 (3 * nI j).toNatClampNeg a) 137 ((3 * nI j) + 1).toNatClampNeg y 130 14 = nI j := by rw [q_u_ne (by decide), q_u_ne (by decide)]; exact hI
  rw [e2, show (3 : Int32) = nI 3 by decide, q_mul, q_n1, show (2 : Int32) = nI 2 by decide, q_add]
  simp only [q_clamp (show 3 * j < 2 ^ 31 by omega), q_clamp (show 3 * j + 1 < 2 ^ 31 by omega), q_clamp (show 3 * j + 2 < 2 ^ 31 by omega), q_bnd (show 3 * j < 36 by omega) (by decide), q_bnd (show 3 * j + 1 < 36 by omega) (by decide), q_bnd (show 3 * j + 2 < 36 by omega) (by decide), true_and]
  rw [g_M_fails_40, q_u_ne (show (130 : Nat) ≠ 137 by decide), q_u_ne (show (130 : Nat) ≠ 137 by decide), q_u_ne (show (130 : Nat) ≠ 137 by decide), hI, q_n1]
  simp only [eq_self, true_or, true_and]
  rfl
theorem l_isRun {rt : Value → q_Mem → Nat → Nat → Prop} {n p s : Nat} (hn : I 130 0 = nI n) (h12 : n ≤ 12) (hp : p < n) (hs : s < 31) : ∀ k i, i + k = n → q_X (q_W (d + 2)) rt 174 (2, [some (.ref 130), some (.int (nI p)), some (.int (nI s)), some (.int (nI i))], [], (q_mm L I J t), 0, 0) = rt (.int (q_bb (q_any (fun q => !decide (q = p) && (decide (I 131 q = 1) && q_bt (I 131 (48 + q)) s)) i k))) (q_mm L I J t) 0 0
  | 0, i, h => by
    rw [g_M_isRun_2, hn, q_leN (by omega) (by omega), q_br (by omega)]
    simp only [q_onI_i, q_onJ_j, q_onS_s, q_onB_t, true_and, and_true, true_or, or_true, eq_self, true_implies, not_true_eq_false, not_false_eq_true, false_implies, q_bb0, q_bbok, q_bbok2, Bool.true_eq_false, Bool.false_eq_true, reduceCtorEq]
    rfl
  | k + 1, i, h => by
    have hrec := l_isRun (rt := rt) hn h12 hp hs k (i + 1) (by omega)
    rw [g_M_isRun_2, hn, q_leN (by omega) (by omega), q_brn (by omega), q_eqN (by omega) (by omega)]
    simp only [q_n1, s_state (show i < 108 by omega), q_onI_i, g_M_isRun_20, s_isOffered (show i < 12 by omega) hs, g_M_isRun_30, hrec, q_bb0]
    rw [q_any_s]
    by_cases e1 : i = p
    · simp [e1]
    · by_cases e2 : I 131 i = 1
      · cases e3 : q_bt (I 131 (48 + i)) s <;> simp [e1, e2, q_bb]
      · simp [e1, e2]
theorem s_isRun {Q : Value → q_Mem → Prop} {n p s : Nat} (hn : I 130 0 = nI n) (h12 : n ≤ 12) (hp : p < n) (hs : s < 31) : q_W (d + 3) 174 [.ref 130, .int (nI p), .int (nI s)] (q_mm L I J t) Q = Q (.int (q_bb (q_any (fun q => !decide (q = p) && (decide (I 131 q = 1) && q_bt (I 131 (48 + q)) s)) 0 n))) (q_mm L I J t) := by
  rw [e_M_isRun, show (0 : Int32) = nI 0 by decide, l_isRun hn h12 hp hs n 0 (by omega)]
theorem l_key {rt : Value → q_Mem → Nat → Nat → Prop} {x1 : Int32} {v : Nat} (hv : v ≤ 531440) : q_X (q_W d) rt 175 (8, [some (.ref 130), some (.int x1), some (.int (nI v))], [], (q_mm L I J t), 0, 0) = (((19683 ≤ v) → rt (.int (nI v)) (q_mm L I J t) 0 0) ∧ (¬ (19683 ≤ v) → q_X (q_W d) rt 175 (8, [some (.ref 130), some (.int x1), some (.int (nI (v * 27)))], [], (q_mm L I J t), 0, 0))) := by
  rw [g_M_key_8, show (19683 : Int32) = nI 19683 by decide, q_leN (by decide) (by omega), show (27 : Int32) = nI 27 by decide, q_mul]
theorem s_key {Q : Value → q_Mem → Prop} {p : Nat} (hp : p < 12) (hv : q_nameok (I 131 (72 + p))) : q_W (d + 2) 175 [.ref 130, .int (nI p)] (q_mm L I J t) Q = Q (.int (q_ord (I 131 (72 + p)))) (q_mm L I J t) := by
  obtain ⟨v, hv2, ev⟩ := q_in_get (n := 531441) (x := I 131 (72 + p)) (decide_eq_true ⟨by have := hv.1; omega, by have := hv.2; omega⟩)
  have h1 := hv.1
  rw [ev, nI_toInt (by omega)] at h1
  rw [e_M_key, show (6 : Int32) = nI 6 by decide, s_of (show 12 * 6 + p < 108 by omega), q_onI_i, g_M_key_7, show 12 * 6 + p = 72 + p by omega, ev, l_key (by omega)]
  unfold q_ord
  rw [nI_toInt (by omega)]
  have e27 : (27 : Int32) = nI 27 := by decide
  by_cases c1 : v < 27
  · rw [if_pos (by omega), q_brn (by omega), l_key (by omega), q_brn (by omega), l_key (by omega), q_brn (by omega), l_key (by omega), q_br (by omega), e27, q_mul, q_mul, q_mul]
    congr 3
    omega
  · by_cases c2 : v < 729
    · rw [if_neg (by omega), if_pos (by omega), q_brn (by omega), l_key (by omega), q_brn (by omega), l_key (by omega), q_br (by omega), e27, q_mul, q_mul]
      congr 3
      omega
    · by_cases c3 : v < 19683
      · rw [if_neg (by omega), if_neg (by omega), if_pos (by omega), q_brn (by omega), l_key (by omega), q_br (by omega), e27, q_mul]
        congr 3
        omega
      · rw [if_neg (by omega), if_neg (by omega), if_neg (by omega), q_br (by omega)]
theorem l_taken {rt : Value → q_Mem → Nat → Nat → Prop} {n p s : Nat} (hn : I 130 0 = nI n) (h12 : n ≤ 12) (hp : p < n) (hs : s < 31) (hnm : ∀ q, q < n → q_nameok (I 131 (72 + q))) : ∀ k i (o : Option Nat), i + k = n → (∀ b, o = some b → b < n) → q_X (q_W (d + 2)) rt 176 (5, [some (.ref 130), some (.int (nI p)), some (.int (nI s)), some (.int (q_fst o)), some (.int (nI i))], [], (q_mm L I J t), 0, 0) = rt (.int (q_fst (q_it (q_pick (q_cIdl (I 131) p s) (q_bTk (I 131))) i k o))) (q_mm L I J t) 0 0
  | 0, i, o, h, ho => by
    rw [g_M_taken_5, hn, q_leN (by omega) (by omega), q_br (by omega)]
    rfl
  | k + 1, i, o, h, ho => by
    have ho' : ∀ b, o = some b → b < 12 := fun b hb => Nat.lt_of_lt_of_le (ho b hb) h12
    have hi : i < 12 := by omega
    have hskip := l_taken (rt := rt) hn h12 hp hs hnm k (i + 1) o (by omega) ho
    have htake := l_taken (rt := rt) hn h12 hp hs hnm k (i + 1) (some i) (by omega) (fun b e => by injection e with e; omega)
    rw [show q_fst (some i) = nI i from rfl] at htake
    rw [g_M_taken_5, hn, q_leN (by omega) (by omega), q_brn (by omega), q_eqN (by omega) (by omega), q_it_s]
    simp only [q_n1]
    rw [hskip]
    by_cases hip : i = p
    · rw [q_br hip, q_pick_f (by simp [q_cIdl, hip])]
    rw [q_brn hip, s_state (by omega), q_onI_i, g_M_taken_26]
    simp only [q_n1]
    rw [hskip]
    by_cases h9 : I 131 i = 0
    · rw [q_br h9, s_isOffered hi hs, q_onI_i, g_M_taken_36]
      simp only [q_n1, q_bb0]
      rw [hskip, htake]
      cases ho5 : q_bt (I 131 (48 + i)) s with
      | false => rw [q_br rfl, q_pick_f (by simp [q_cIdl, ho5])]
      | true =>
        have hc : q_cIdl (I 131) p s i = true := by simp [q_cIdl, hip, h9, ho5]
        rw [q_brn (by decide), q_fst_no ho']
        cases o with
        | none => rw [q_br rfl, q_pick_n hc]
        | some b =>
          have hbn := ho b rfl
          have hb := ho' b rfl
          rw [q_brn (by simp), show q_fst (some b) = nI b from rfl, s_mstr hi, q_onI_i, g_M_taken_53, s_mstr hb, q_onI_i, g_M_taken_58]
          simp only [q_n1]
          rw [htake, q_pick_y hc]
          rw [show q_fst (some b) = nI b from rfl] at hskip
          by_cases e1 : q_mstr I b < q_mstr I i
          · rw [q_br e1, show q_bTk (I 131) i b = true by
              unfold q_bTk
              rw [decide_eq_true (show q_mst (I 131) b < q_mst (I 131) i from e1)]
              rfl]
          · have e1' : ¬ q_mst (I 131) b < q_mst (I 131) i := e1
            rw [q_brn e1, s_mstr hi, q_onI_i, g_M_taken_67, s_mstr hb, q_onI_i, g_M_taken_72]
            simp only [q_n1]
            rw [hskip]
            by_cases e2 : q_mstr I i = q_mstr I b
            · have e2' : q_mst (I 131) i = q_mst (I 131) b := e2
              rw [q_br e2, s_key hi (hnm i (by omega)), q_onI_i, g_M_taken_81, s_key hb (hnm b hbn), q_onI_i, g_M_taken_86]
              simp only [q_n1]
              rw [hskip, htake]
              by_cases e3 : q_ord (I 131 (72 + i)) < q_ord (I 131 (72 + b))
              · rw [q_brn (Int32.not_le.mpr e3), show q_bTk (I 131) i b = true by
                  unfold q_bTk
                  rw [decide_eq_true e2', decide_eq_true e3, Bool.true_and, Bool.or_true]]
              · rw [q_br (Int32.not_lt.mp e3), show q_bTk (I 131) i b = false by
                  unfold q_bTk
                  rw [decide_eq_false e1', decide_eq_false e3, Bool.and_false]
                  rfl]
            · have e2' : ¬ q_mst (I 131) i = q_mst (I 131) b := e2
              rw [q_brn e2, show q_bTk (I 131) i b = false by
                unfold q_bTk
                rw [decide_eq_false e1', decide_eq_false e2']
                rfl]
    · rw [q_brn h9, q_pick_f (by simp [q_cIdl, h9])]
theorem s_taken {Q : Value → q_Mem → Prop} {n p s : Nat} (hn : I 130 0 = nI n) (h12 : n ≤ 12) (hp : p < n) (hs : s < 31) (hnm : ∀ q, q < n → q_nameok (I 131 (72 + q))) : q_W (d + 3) 176 [.ref 130, .int (nI p), .int (nI s)] (q_mm L I J t) Q = Q (.int (q_fst (q_tk (I 131) n p s))) (q_mm L I J t) := by
  rw [e_M_taken]
  exact l_taken hn h12 hp hs hnm n 0 none (by omega) (fun b e => by injection e)
end MST1
