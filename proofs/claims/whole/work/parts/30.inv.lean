/-! what holds between the class's memory and the model's -/
def q_str (kind rank bits : Int32) : Int32 := if kind.toInt = 1 then rank + bits else if kind.toInt = 2 then (if (5 : Int32) < rank then rank else 5) else if kind.toInt = 3 then (2 : Int32) * (rank + bits) else if kind.toInt = 4 then (if (5 : Int32) < rank then rank else 5) + 1 else rank
/-- how many bits: what Integer.bitCount comes to -/
def q_bc0 (x : Int32) : Int32 := x - ((x.toUInt32 >>> ((1 : Int32).toUInt32 &&& Int32.toUInt32 31)).toInt32 &&& (1431655765 : Int32))
def q_rng (x : Int32) (a b : Int) : Prop := a ≤ x.toInt ∧ x.toInt ≤ b
/-- a name: letters 1 to 26, at most four -/
def q_nameok (x : Int32) : Prop := 1 ≤ x.toInt ∧ x.toInt ≤ 531440
/-- the letters from the left -/
def q_ord (x : Int32) : Int32 := if x.toInt < 27 then (27 : Int32) * 27 * 27 * x else if x.toInt < 729 then (27 : Int32) * 27 * x else if x.toInt < 19683 then (27 : Int32) * x else x
def v_plug (bc : Int32 → Int32) (I : Nat → Nat → Int32) (b a p : Nat) : Prop :=
  (I (b + p) 0 = I a (12 + p) ∧ I (b + p) 1 = I a (24 + p) ∧ I (b + p) 2 = I a (36 + p) ∧ I (b + p) 3 = I a (48 + p) ∧ I (b + p) 4 = I a (60 + p) ∧ I (b + p) 5 = I a (72 + p) ∧ I (b + p) 9 = I a p ∧ I (b + p) 8 = I a (96 + p)) ∧
  (I a p = 1 → I (b + p) 10 = I a (84 + p)) ∧ I (b + p) 6 = q_str (I (b + p) 0) (I (b + p) 1) (bc (I (b + p) 3)) ∧ I (b + p) 7 = q_ord (I (b + p) 5) ∧
  (q_rng (I a (12 + p)) 0 4 ∧ q_rng (I a (24 + p)) 0 9 ∧ q_rng (I a (36 + p)) 0 255 ∧ q_rng (I a (48 + p)) 0 255 ∧ q_rng (I a (60 + p)) 0 9 ∧ q_nameok (I a (72 + p)) ∧ q_rng (I a p) 0 3)
def v_hook (I : Nat → Nat → Int32) (b a f i n : Nat) : Prop :=
  (I (b + i) 0 = I a (f + i) ∧ I (b + i) 1 = I a (f + 24 + i) ∧ I (b + i) 2 = I a (f + 48 + i) ∧ I (b + i) 3 = I a (f + 72 + i) ∧ I (b + i) 4 = I a (f + 96 + i)) ∧
  (∃ p, p < n ∧ I a (f + i) = nI p) ∧ q_rng (I a (f + 24 + i)) 0 3 ∧ q_rng (I a (f + 48 + i)) (-9) 9 ∧ q_rng (I a (f + 72 + i)) 0 8 ∧ q_rng (I a (f + 96 + i)) (-99) 99
def v_host (bc : Int32 → Int32) (I : Nat → Nat → Int32) (ho pb hb ta ha f n h : Nat) : Prop := I ho 2 = nI n ∧ I ho 3 = nI h ∧ n ≤ 12 ∧ h ≤ 24 ∧ (∀ p, p < n → v_plug bc I pb ta p) ∧ ∀ i, i < h → v_hook I hb ha f i n
def v_main (bc : Int32 → Int32) (I : Nat → Nat → Int32) (n h : Nat) : Prop := v_host bc I 3 6 18 131 132 0 n h ∧ I 130 0 = nI n ∧ I 130 4 = nI h ∧ I 3 4 = I 130 2 ∧ I 3 5 = I 130 3
def v_img (bc : Int32 → Int32) (I : Nat → Nat → Int32) : Prop := I 1 3 = I 130 34 ∧ (I 1 3 = 0 ∨ I 1 3 = 1) ∧ (I 1 3 = 1 → ∃ n h, v_host bc I 42 45 57 146 146 108 n h ∧ I 146 228 = nI n ∧ I 146 229 = nI h ∧ I 42 4 = I 146 230 ∧ I 42 5 = I 146 231)
def v_shelf (I : Nat → Nat → Int32) (J : Nat → Nat → Int64) (n s : Nat) : Prop :=
  (I (114 + 2 * s) 1 = -1 ∧ I (114 + 2 * s) 3 = -1 ∧ I 133 s = -1) ∨
  (∃ q len, q < 4 ∧ len ≤ 160 ∧ I (114 + 2 * s) 1 = nI q ∧ I (114 + 2 * s) 2 = nI len ∧ I (114 + 2 * s) 3 = -1 ∧ I 133 s = nI (100 + q) ∧ I 134 s = nI len ∧ ∀ i, i < 160 → J (115 + 2 * s) i = J 135 (160 * s + i)) ∨
  (∃ p, p < n ∧ I (114 + 2 * s) 1 = -1 ∧ I (114 + 2 * s) 3 = nI p ∧ I 133 s = nI p)
def v_shelves (I : Nat → Nat → Int32) (J : Nat → Nat → Int64) (n : Nat) : Prop := ∀ s, s < 8 → v_shelf I J n s
def v_causes (I : Nat → Nat → Int32) : Prop := ∃ c, c ≤ 12 ∧ I 1 11 = nI c ∧ I 130 12 = nI c ∧ ∀ i, i < c → ∀ w, w < 3 → I 112 (3 * i + w) = I 136 (3 * (c - 1 - i) + w)
def v_log (I : Nat → Nat → Int32) (T : Nat) : Prop := ∃ k, k ≤ T ∧ I 110 1 = nI k ∧ I 130 20 = nI k ∧ ∀ i, i < 40 → I 111 i = I 139 i
def v_fired (I : Nat → Nat → Int32) : Prop := ∃ r, r ≤ 200 ∧ I 86 5 = nI r ∧ I 130 30 = nI r ∧ I 86 4 = I 130 32 ∧ ∀ i, i < 30 → i < r → I 88 i = I 144 i
def v_ref (I : Nat → Nat → Int32) : Prop := ∀ i, i < 8 → I 113 i = I 145 i
def v_misc (I : Nat → Nat → Int32) : Prop := I 1 12 = I 130 9 ∧ I 130 19 = 0
/-- the invariant: T bounds the log -/
def v_Inv (bc : Int32 → Int32) (T : Nat) (I : Nat → Nat → Int32) (J : Nat → Nat → Int64) (_t : Nat) : Prop := ∃ n h, v_main bc I n h ∧ v_shelves I J n ∧ v_causes I ∧ v_log I T ∧ v_fired I ∧ v_ref I ∧ v_img bc I ∧ v_misc I
theorem q_u_ne {I : Nat → Nat → Int32} {o k : Nat} {v : Int32} {a : Nat} (h : a ≠ o) : q_u I o k v a = I a := by
  funext b
  unfold q_u
  rw [if_neg (fun z => h z.1)]
theorem q_u_eq {I : Nat → Nat → Int32} {o k : Nat} {v : Int32} : q_u I o k v o k = v := by
  unfold q_u
  rw [if_pos ⟨rfl, rfl⟩]
theorem q_u_nk {I : Nat → Nat → Int32} {o k : Nat} {v : Int32} {b : Nat} (h : b ≠ k) : q_u I o k v o b = I o b := by
  unfold q_u
  rw [if_neg (fun z => h z.2)]
theorem v_plug_congr {bc : Int32 → Int32} {I I' : Nat → Nat → Int32} {b a p : Nat} (h1 : I' (b + p) = I (b + p)) (h2 : I' a = I a) (h : v_plug bc I b a p) : v_plug bc I' b a p := by
  unfold v_plug at h ⊢
  rw [h1, h2]
  exact h
theorem v_hook_congr {I I' : Nat → Nat → Int32} {b a f i n : Nat} (h1 : I' (b + i) = I (b + i)) (h2 : I' a = I a) (h : v_hook I b a f i n) : v_hook I' b a f i n := by
  unfold v_hook at h ⊢
  rw [h1, h2]
  exact h
theorem v_host_congr {bc : Int32 → Int32} {I I' : Nat → Nat → Int32} {ho pb hb ta ha f n h : Nat} (h0 : I' ho = I ho) (h1 : ∀ p, p < 12 → I' (pb + p) = I (pb + p)) (h2 : ∀ i, i < 24 → I' (hb + i) = I (hb + i)) (h3 : I' ta = I ta) (h4 : I' ha = I ha) (hh : v_host bc I ho pb hb ta ha f n h) : v_host bc I' ho pb hb ta ha f n h := by
  obtain ⟨a1, a2, a3, a4, a5, a6⟩ := hh
  exact ⟨by rw [h0]; exact a1, by rw [h0]; exact a2, a3, a4, fun p hp => v_plug_congr (h1 p (by omega)) h3 (a5 p hp), fun i hi => v_hook_congr (h2 i (by omega)) h4 (a6 i hi)⟩
theorem v_shelf_congr {I I' : Nat → Nat → Int32} {J J' : Nat → Nat → Int64} {n s : Nat} (h1 : I' (114 + 2 * s) = I (114 + 2 * s)) (h2 : I' 133 = I 133) (h3 : I' 134 = I 134) (h4 : J' (115 + 2 * s) = J (115 + 2 * s)) (h5 : J' 135 = J 135) (h : v_shelf I J n s) : v_shelf I' J' n s := by
  unfold v_shelf at h ⊢
  rw [h1, h2, h3, h4, h5]
  exact h
/-- all that a change elsewhere leaves -/
theorem v_Inv_ref {bc : Int32 → Int32} {T : Nat} {I I' : Nat → Nat → Int32} {J : Nat → Nat → Int64} {t t' : Nat} (ho : ∀ o, o ≠ 113 → o ≠ 145 → I' o = I o) (hr : v_ref I') (h : v_Inv bc T I J t) : v_Inv bc T I' J t' := by
  obtain ⟨n, hk, ⟨m1, m2, m3, m4, m5⟩, h2, ⟨c, c1, c2, c3, c4⟩, ⟨k, k1, k2, k3, k4⟩, ⟨r, r1, r2, r3, r4, r5⟩, -, ⟨g1, g2, g3⟩, ⟨w1, w2⟩⟩ := h
  have e1 : I' 1 = I 1 := ho 1 (by decide) (by decide)
  have e3 : I' 3 = I 3 := ho 3 (by decide) (by decide)
  have e42 : I' 42 = I 42 := ho 42 (by decide) (by decide)
  have e130 : I' 130 = I 130 := ho 130 (by decide) (by decide)
  have e146 : I' 146 = I 146 := ho 146 (by decide) (by decide)
  refine ⟨n, hk, ⟨v_host_congr e3 (fun p hp => ho _ (by omega) (by omega)) (fun p hp => ho _ (by omega) (by omega)) (ho _ (by decide) (by decide)) (ho _ (by decide) (by decide)) m1, by rw [e130]; exact m2, by rw [e130]; exact m3, by rw [e130, e3]; exact m4, by rw [e130, e3]; exact m5⟩, fun s hs => v_shelf_congr (ho _ (by omega) (by omega)) (ho _ (by decide) (by decide)) (ho _ (by decide) (by decide)) rfl rfl (h2 s hs), ⟨c, c1, by rw [e1]; exact c2, by rw [e130]; exact c3, fun i hi w hw => by rw [ho 112 (by decide) (by decide), ho 136 (by decide) (by decide)]; exact c4 i hi w hw⟩, ⟨k, k1, by rw [ho 110 (by decide) (by decide)]; exact k2, by rw [e130]; exact k3, fun i hi => by rw [ho 111 (by decide) (by decide), ho 139 (by decide) (by decide)]; exact k4 i hi⟩, ⟨r, r1, by rw [ho 86 (by decide) (by decide)]; exact r2, by rw [e130]; exact r3, by rw [e130, ho 86 (by decide) (by decide)]; exact r4, fun i hi hi2 => by rw [ho 88 (by decide) (by decide), ho 144 (by decide) (by decide)]; exact r5 i hi hi2⟩, hr, ⟨by rw [e1, e130]; exact g1, by rw [e1]; exact g2, fun hz => ?_⟩, by rw [e1, e130]; exact w1, by rw [e130]; exact w2⟩
  rw [e1] at hz
  obtain ⟨n', h', b1, b2, b3, b4, b5⟩ := g3 hz
  exact ⟨n', h', v_host_congr e42 (fun p hp => ho _ (by omega) (by omega)) (fun p hp => ho _ (by omega) (by omega)) e146 e146 b1, by rw [e146]; exact b2, by rw [e146]; exact b3, by rw [e42, e146]; exact b4, by rw [e42, e146]; exact b5⟩
/-- a refusal, told on both sides -/
theorem v_Inv_refuse {bc : Int32 → Int32} {T : Nat} {I : Nat → Nat → Int32} {J : Nat → Nat → Int64} {t : Nat} (k : Nat) (h : v_Inv bc T I J t) : v_Inv bc T (q_u (q_u I 113 k (I 113 k + 1)) 145 k (q_u I 113 k (I 113 k + 1) 145 k + 1)) J t := by
  have hr : v_ref I := by
    obtain ⟨n, hk, -, -, -, -, -, h6, -⟩ := h
    exact h6
  refine v_Inv_ref (fun o h1 h2 => by rw [q_u_ne h2, q_u_ne h1]) (fun i hi => ?_) h
  rw [q_u_ne (show (113 : Nat) ≠ 145 by decide)]
  by_cases e : i = k
  · subst e
    rw [q_u_eq, q_u_eq, q_u_ne (show (145 : Nat) ≠ 113 by decide), hr i hi]
  · rw [q_u_nk e, q_u_nk e, q_u_ne (show (145 : Nat) ≠ 113 by decide)]
    exact hr i hi
