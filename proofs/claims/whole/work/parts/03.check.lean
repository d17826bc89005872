def q_cn (c : Nat) : String := match c with
  | 0 => RX0
  | 1 => RX1
  | 2 => RX2
  | 3 => RX3
  | 4 => RX4
  | 5 => RX5
  | 6 => RX6
  | 7 => RX7
  | 8 => RX8
  | 9 => RX9
  | _ => RX10
def q_T (c : Nat) : u_T := match c with
  | 0 => TX0
  | 1 => TX1
  | 2 => TX2
  | 3 => TX3
  | 4 => TX4
  | 5 => TX5
  | 6 => TX6
  | 7 => TX7
  | 8 => TX8
  | 9 => TX9
  | _ => TX10
def q_tyf (c : Nat) : Nat → FieldType := match c with
  | 0 => tyX0
  | 1 => tyX1
  | 2 => tyX2
  | 3 => tyX3
  | 4 => tyX4
  | 5 => tyX5
  | 6 => tyX6
  | 7 => tyX7
  | 8 => tyX8
  | 9 => tyX9
  | _ => tyX10
def q_N (c : Nat) : Nat := match c with
  | 0 => 2
  | 1 => 8
  | 2 => 5
  | 3 => 6
  | 4 => 8
  | 5 => 11
  | 6 => 4
  | 7 => 6
  | 8 => 2
  | 9 => 14
  | _ => 37
def q_own (j : Nat) : String := (q_m j).1.1.cls
def q_tb (k : Nat) : List Cond := match k with
  | 0 => k2_sels lw_privs
  | 1 => tables_1_1
  | 2 => tables_1_2
  | 3 => tables_1_3
  | 4 => tables_1_4
  | 5 => tables_1_5
  | _ => tables_1_6
theorem q_tb_in {k : Nat} {w : Cond} (h : w ∈ q_tb k) : w ∈ lw_tbl := by
  unfold q_tb at h
  unfold lw_tbl tables_1
  simp only [List.mem_append]
  split at h
  · exact Or.inl h
  · exact Or.inr (Or.inl h)
  · exact Or.inr (Or.inr (Or.inl h))
  · exact Or.inr (Or.inr (Or.inr (Or.inl h)))
  · exact Or.inr (Or.inr (Or.inr (Or.inr (Or.inl h))))
  · exact Or.inr (Or.inr (Or.inr (Or.inr (Or.inr (Or.inl h)))))
  · exact Or.inr (Or.inr (Or.inr (Or.inr (Or.inr (Or.inr h)))))
/-- one instruction of a method: it decodes so, and its word is among the tables' -/
def q_ckI (j pc : Nat) (e : q_In) : Bool :=
  (match decode (q_m j).1.2.1 pc with
    | .ok (i, n) => decide (i = e.1) && (n == e.2.1)
    | _ => false) &&
  (match e.1 with
    | .getfield idx => decide (e.2.2.1 < 11) && (decide (e.2.2.2.1 < q_N e.2.2.1) && decide ((q_tb (e.2.2.2.2 / 1000))[e.2.2.2.2 % 1000]? = some (.fieldLink (q_own j) idx (q_T e.2.2.1 e.2.2.2.1).1 (q_T e.2.2.1 e.2.2.2.1).2.1 (q_T e.2.2.1 e.2.2.2.1).2.2.1)))
    | .putfield idx => decide (e.2.2.1 < 11) && (decide (e.2.2.2.1 < q_N e.2.2.1) && decide ((q_tb (e.2.2.2.2 / 1000))[e.2.2.2.2 % 1000]? = some (.fieldLink (q_own j) idx (q_T e.2.2.1 e.2.2.2.1).1 (q_T e.2.2.1 e.2.2.2.1).2.1 (q_T e.2.2.1 e.2.2.2.1).2.2.1))) && (!(q_T e.2.2.1 e.2.2.2.1).2.2.2 || (decide ((q_T e.2.2.1 e.2.2.2.1).1 = q_own j) && decide ((q_m j).1.1.name = "<init>")))
    | .invokevirtual idx => decide (e.2.2.1 < 228) && ((q_m e.2.2.1).2.1.2.1 == 0) && decide ((q_tb (e.2.2.2.2 / 1000))[e.2.2.2.2 % 1000]? = some (.methodLink (q_own j) idx (q_m e.2.2.1).1.1))
    | .invokestatic idx => if e.2.2.1 = 301 then decide ((q_tb (e.2.2.2.2 / 1000))[e.2.2.2.2 % 1000]? = some (.methodLink (q_own j) idx arraycopyName)) else decide (e.2.2.1 < 228) && ((q_m e.2.2.1).2.1.2.1 == 1) && decide ((q_tb (e.2.2.2.2 / 1000))[e.2.2.2.2 % 1000]? = some (.methodLink (q_own j) idx (q_m e.2.2.1).1.1))
    | .invokespecial idx => if e.2.2.1 = 300 then decide ((q_tb (e.2.2.2.2 / 1000))[e.2.2.2.2 % 1000]? = some (.methodLink (q_own j) idx Lib.objectInit)) else decide (e.2.2.1 < 228) && ((q_m e.2.2.1).2.1.2.1 == 2) && (if e.2.2.2.1 = 1 then decide ((q_tb (e.2.2.2.2 / 1000))[e.2.2.2.2 % 1000]? = some (.methodLinkNest (q_own j) idx (q_m e.2.2.1).1.1 "PluginChains")) else decide ((q_tb (e.2.2.2.2 / 1000))[e.2.2.2.2 % 1000]? = some (.methodLink (q_own j) idx (q_m e.2.2.1).1.1)))
    | .new idx => decide (e.2.2.1 < 11) && decide ((q_tb (e.2.2.2.2 / 1000))[e.2.2.2.2 % 1000]? = some (.classLink (q_own j) idx (q_cn e.2.2.1)))
    | .anewarray idx => decide (e.2.2.1 < 11) && decide ((q_tb (e.2.2.2.2 / 1000))[e.2.2.2.2 % 1000]? = some (.classLink (q_own j) idx (q_cn e.2.2.1)))
    | .ldc idx => decide ((q_tb (e.2.2.2.2 / 1000))[e.2.2.2.2 % 1000]? = some (.constant (q_own j) idx (Int32.ofNat e.2.2.1)))
    | .ldc_w idx => decide ((q_tb (e.2.2.2.2 / 1000))[e.2.2.2.2 % 1000]? = some (.constant (q_own j) idx (Int32.ofNat e.2.2.1)))
    | .ldc2_w idx => decide ((q_tb (e.2.2.2.2 / 1000))[e.2.2.2.2 % 1000]? = some (.constantLong (q_own j) idx (Int64.ofNat e.2.2.1)))
    | .goto off => decide ((pc : Int) + off = (e.2.2.1 : Int))
    | .ifCond _ off => decide ((pc : Int) + off = (e.2.2.1 : Int))
    | .if_icmp _ off => decide ((pc : Int) + off = (e.2.2.1 : Int))
    | _ => true)
def q_len (j : Nat) : Nat := ((q_fs.getD (j / 16) []).getD (j % 16) []).length
def q_ck (j : Nat) : Bool := (List.range (16 * q_len j)).all fun pc => match q_fe j pc with
  | none => true
  | some e => q_ckI j pc e
def q_ckB (j c : Nat) : Bool := (List.range 16).all fun k => match q_fe j (16 * c + k) with
  | none => true
  | some e => q_ckI j (16 * c + k) e
theorem q_ck0 : q_ck 0 = true := by decide +kernel
theorem q_ck1 : q_ck 1 = true := by decide +kernel
theorem q_ck2 : q_ck 2 = true := by decide +kernel
theorem q_ck3 : q_ck 3 = true := by decide +kernel
theorem q_ck4 : q_ck 4 = true := by decide +kernel
theorem q_ck5 : q_ck 5 = true := by decide +kernel
theorem q_ck6 : q_ck 6 = true := by decide +kernel
theorem q_ck7 : q_ck 7 = true := by decide +kernel
theorem q_ck8 : q_ck 8 = true := by decide +kernel
theorem q_ck9 : q_ck 9 = true := by decide +kernel
theorem q_ck10 : q_ck 10 = true := by decide +kernel
theorem q_ck11 : q_ck 11 = true := by decide +kernel
theorem q_ck12 : q_ck 12 = true := by decide +kernel
theorem q_ck13 : q_ck 13 = true := by decide +kernel
theorem q_ck14 : q_ck 14 = true := by decide +kernel
theorem q_ck15 : q_ck 15 = true := by decide +kernel
theorem q_ck16 : q_ck 16 = true := by decide +kernel
theorem q_ck17 : q_ck 17 = true := by decide +kernel
theorem q_ck18 : q_ck 18 = true := by decide +kernel
theorem q_ck19 : q_ck 19 = true := by decide +kernel
theorem q_ck20 : q_ck 20 = true := by decide +kernel
theorem q_ck21 : q_ck 21 = true := by decide +kernel
theorem q_ck22 : q_ck 22 = true := by decide +kernel
theorem q_ck23 : q_ck 23 = true := by decide +kernel
theorem q_ck24 : q_ck 24 = true := by decide +kernel
theorem q_ck25 : q_ck 25 = true := by decide +kernel
theorem q_ck26 : q_ck 26 = true := by decide +kernel
theorem q_ck27 : q_ck 27 = true := by decide +kernel
theorem q_ck28 : q_ck 28 = true := by decide +kernel
theorem q_ck29 : q_ck 29 = true := by decide +kernel
theorem q_ck30 : q_ck 30 = true := by decide +kernel
theorem q_ck31 : q_ck 31 = true := by decide +kernel
theorem q_ck32 : q_ck 32 = true := by decide +kernel
theorem q_ck33 : q_ck 33 = true := by decide +kernel
theorem q_ck34 : q_ck 34 = true := by decide +kernel
theorem q_ck35 : q_ck 35 = true := by decide +kernel
theorem q_ck36 : q_ck 36 = true := by decide +kernel
theorem q_ck37 : q_ck 37 = true := by decide +kernel
theorem q_ck38 : q_ck 38 = true := by decide +kernel
theorem q_ck39 : q_ck 39 = true := by decide +kernel
theorem q_ck40 : q_ck 40 = true := by decide +kernel
theorem q_ck41 : q_ck 41 = true := by decide +kernel
theorem q_ck42 : q_ck 42 = true := by decide +kernel
theorem q_ck43 : q_ck 43 = true := by decide +kernel
theorem q_ck44 : q_ck 44 = true := by decide +kernel
theorem q_ck45 : q_ck 45 = true := by decide +kernel
theorem q_ck46 : q_ck 46 = true := by decide +kernel
theorem q_ck47 : q_ck 47 = true := by decide +kernel
theorem q_ck48 : q_ck 48 = true := by decide +kernel
theorem q_ck49 : q_ck 49 = true := by decide +kernel
theorem q_ck50 : q_ck 50 = true := by decide +kernel
theorem q_ck51 : q_ck 51 = true := by decide +kernel
theorem q_ck52 : q_ck 52 = true := by decide +kernel
theorem q_ck53 : q_ck 53 = true := by decide +kernel
theorem q_ck54 : q_ck 54 = true := by decide +kernel
theorem q_ck55 : q_ck 55 = true := by decide +kernel
theorem q_ck56 : q_ck 56 = true := by decide +kernel
theorem q_ck57 : q_ck 57 = true := by decide +kernel
theorem q_ck58 : q_ck 58 = true := by decide +kernel
theorem q_ck59 : q_ck 59 = true := by decide +kernel
theorem q_ck60 : q_ck 60 = true := by decide +kernel
theorem q_ck61 : q_ck 61 = true := by decide +kernel
theorem q_ck62 : q_ck 62 = true := by decide +kernel
theorem q_ck63 : q_ck 63 = true := by decide +kernel
theorem q_ck64 : q_ck 64 = true := by decide +kernel
theorem q_ck65 : q_ck 65 = true := by decide +kernel
theorem q_ck66 : q_ck 66 = true := by decide +kernel
theorem q_ck67 : q_ck 67 = true := by decide +kernel
theorem q_ck68 : q_ck 68 = true := by decide +kernel
theorem q_ck69 : q_ck 69 = true := by decide +kernel
theorem q_ck70 : q_ck 70 = true := by decide +kernel
theorem q_ck71 : q_ck 71 = true := by decide +kernel
theorem q_ck72 : q_ck 72 = true := by decide +kernel
theorem q_ck73 : q_ck 73 = true := by decide +kernel
theorem q_ck74 : q_ck 74 = true := by decide +kernel
theorem q_ck75 : q_ck 75 = true := by decide +kernel
theorem q_ck76 : q_ck 76 = true := by decide +kernel
theorem q_ck77 : q_ck 77 = true := by decide +kernel
theorem q_ck78 : q_ck 78 = true := by decide +kernel
theorem q_ck79 : q_ck 79 = true := by decide +kernel
theorem q_ck80 : q_ck 80 = true := by decide +kernel
theorem q_ck81 : q_ck 81 = true := by decide +kernel
theorem q_ck82 : q_ck 82 = true := by decide +kernel
theorem q_ck83 : q_ck 83 = true := by decide +kernel
theorem q_ck84 : q_ck 84 = true := by decide +kernel
theorem q_ck85 : q_ck 85 = true := by decide +kernel
theorem q_ck86 : q_ck 86 = true := by decide +kernel
theorem q_ck87 : q_ck 87 = true := by decide +kernel
theorem q_ck88 : q_ck 88 = true := by decide +kernel
theorem q_ck89 : q_ck 89 = true := by decide +kernel
theorem q_ck90 : q_ck 90 = true := by decide +kernel
theorem q_ck91 : q_ck 91 = true := by decide +kernel
theorem q_ck92 : q_ck 92 = true := by decide +kernel
theorem q_ck93 : q_ck 93 = true := by decide +kernel
theorem q_ck94 : q_ck 94 = true := by decide +kernel
theorem q_ck95 : q_ck 95 = true := by decide +kernel
theorem q_ck96 : q_ck 96 = true := by decide +kernel
theorem q_ck97 : q_ck 97 = true := by decide +kernel
theorem q_ck98 : q_ck 98 = true := by decide +kernel
theorem q_ck99 : q_ck 99 = true := by decide +kernel
theorem q_ck100 : q_ck 100 = true := by decide +kernel
theorem q_ck101 : q_ck 101 = true := by decide +kernel
theorem q_ck102 : q_ck 102 = true := by decide +kernel
theorem q_ck103 : q_ck 103 = true := by decide +kernel
theorem q_ck104 : q_ck 104 = true := by decide +kernel
theorem q_ck105 : q_ck 105 = true := by decide +kernel
theorem q_ck106 : q_ck 106 = true := by decide +kernel
theorem q_ck107 : q_ck 107 = true := by decide +kernel
theorem q_ck108 : q_ck 108 = true := by decide +kernel
theorem q_ck109 : q_ck 109 = true := by decide +kernel
theorem q_ck110 : q_ck 110 = true := by decide +kernel
theorem q_ck111 : q_ck 111 = true := by decide +kernel
theorem q_ck112 : q_ck 112 = true := by decide +kernel
theorem q_ck113 : q_ck 113 = true := by decide +kernel
theorem q_ck114 : q_ck 114 = true := by decide +kernel
theorem q_ck115 : q_ck 115 = true := by decide +kernel
theorem q_ck116 : q_ck 116 = true := by decide +kernel
theorem q_ck117 : q_ck 117 = true := by decide +kernel
theorem q_ck118 : q_ck 118 = true := by decide +kernel
theorem q_ck119 : q_ck 119 = true := by decide +kernel
theorem q_ck120 : q_ck 120 = true := by decide +kernel
theorem q_ck121 : q_ck 121 = true := by decide +kernel
theorem q_ck122 : q_ck 122 = true := by decide +kernel
theorem q_ck123 : q_ck 123 = true := by decide +kernel
theorem q_ck124 : q_ck 124 = true := by decide +kernel
theorem q_ck125 : q_ck 125 = true := by decide +kernel
theorem q_ck126 : q_ck 126 = true := by decide +kernel
theorem q_ck127 : q_ck 127 = true := by decide +kernel
theorem q_ck128 : q_ck 128 = true := by decide +kernel
theorem q_ck129 : q_ck 129 = true := by decide +kernel
theorem q_ck130 : q_ck 130 = true := by decide +kernel
theorem q_ck131 : q_ck 131 = true := by decide +kernel
theorem q_ck132 : q_ck 132 = true := by decide +kernel
theorem q_ck133 : q_ck 133 = true := by decide +kernel
theorem q_ck134 : q_ck 134 = true := by decide +kernel
theorem q_ck135 : q_ck 135 = true := by decide +kernel
theorem q_ck136 : q_ck 136 = true := by decide +kernel
theorem q_ck137 : q_ck 137 = true := by decide +kernel
theorem q_ck138 : q_ck 138 = true := by decide +kernel
theorem q_ck139 : q_ck 139 = true := by decide +kernel
theorem q_ck140 : q_ck 140 = true := by decide +kernel
theorem q_ck141 : q_ck 141 = true := by decide +kernel
theorem q_ck142 : q_ck 142 = true := by decide +kernel
theorem q_ck143 : q_ck 143 = true := by decide +kernel
theorem q_ck144 : q_ck 144 = true := by decide +kernel
theorem q_ck145 : q_ck 145 = true := by decide +kernel
theorem q_ck146 : q_ck 146 = true := by decide +kernel
theorem q_ck147 : q_ck 147 = true := by decide +kernel
theorem q_ck148 : q_ck 148 = true := by decide +kernel
theorem q_ck149 : q_ck 149 = true := by decide +kernel
theorem q_ck150 : q_ck 150 = true := by decide +kernel
theorem q_ck151 : q_ck 151 = true := by decide +kernel
theorem q_ck152 : q_ck 152 = true := by decide +kernel
theorem q_ck153 : q_ck 153 = true := by decide +kernel
theorem q_ck154 : q_ck 154 = true := by decide +kernel
theorem q_ck155 : q_ck 155 = true := by decide +kernel
theorem q_ck156 : q_ck 156 = true := by decide +kernel
theorem q_ck157 : q_ck 157 = true := by decide +kernel
theorem q_ck158 : q_ck 158 = true := by decide +kernel
theorem q_ck159 : q_ck 159 = true := by decide +kernel
theorem q_ck160 : q_ck 160 = true := by decide +kernel
theorem q_ck161 : q_ck 161 = true := by decide +kernel
theorem q_ck162 : q_ck 162 = true := by decide +kernel
theorem q_ck163 : q_ck 163 = true := by decide +kernel
theorem q_ck164 : q_ck 164 = true := by decide +kernel
theorem q_ck165 : q_ck 165 = true := by decide +kernel
theorem q_ck166 : q_ck 166 = true := by decide +kernel
theorem q_ck167 : q_ck 167 = true := by decide +kernel
theorem q_ck168 : q_ck 168 = true := by decide +kernel
theorem q_ck169 : q_ck 169 = true := by decide +kernel
theorem q_ck170 : q_ck 170 = true := by decide +kernel
theorem q_ck171 : q_ck 171 = true := by decide +kernel
theorem q_ck172 : q_ck 172 = true := by decide +kernel
theorem q_ck173 : q_ck 173 = true := by decide +kernel
theorem q_ck174 : q_ck 174 = true := by decide +kernel
theorem q_ck175 : q_ck 175 = true := by decide +kernel
theorem q_ck176 : q_ck 176 = true := by decide +kernel
theorem q_ck177 : q_ck 177 = true := by decide +kernel
theorem q_ck178 : q_ck 178 = true := by decide +kernel
theorem q_ck179 : q_ck 179 = true := by decide +kernel
theorem q_ck180 : q_ck 180 = true := by decide +kernel
theorem q_ck181 : q_ck 181 = true := by decide +kernel
theorem q_ck182 : q_ck 182 = true := by decide +kernel
theorem q_ck183 : q_ck 183 = true := by decide +kernel
theorem q_ck184 : q_ck 184 = true := by decide +kernel
theorem q_ck185 : q_ck 185 = true := by decide +kernel
theorem q_ck186 : q_ck 186 = true := by decide +kernel
theorem q_ck187 : q_ck 187 = true := by decide +kernel
theorem q_ck188 : q_ck 188 = true := by decide +kernel
theorem q_ck189 : q_ck 189 = true := by decide +kernel
theorem q_ck190 : q_ck 190 = true := by decide +kernel
theorem q_ck191 : q_ck 191 = true := by decide +kernel
theorem q_ck192 : q_ck 192 = true := by decide +kernel
theorem q_ck193 : q_ck 193 = true := by decide +kernel
theorem q_ck194 : q_ck 194 = true := by decide +kernel
theorem q_ck195 : q_ck 195 = true := by decide +kernel
theorem q_ck196 : q_ck 196 = true := by decide +kernel
theorem q_ck197 : q_ck 197 = true := by decide +kernel
theorem q_ck198 : q_ck 198 = true := by decide +kernel
theorem q_ck199 : q_ck 199 = true := by decide +kernel
theorem q_ck200 : q_ck 200 = true := by decide +kernel
theorem q_ck201 : q_ck 201 = true := by decide +kernel
theorem q_ck202 : q_ck 202 = true := by decide +kernel
theorem q_ck203 : q_ck 203 = true := by decide +kernel
theorem q_ck204 : q_ck 204 = true := by decide +kernel
theorem q_ck205 : q_ck 205 = true := by decide +kernel
theorem q_ck206 : q_ck 206 = true := by decide +kernel
theorem q_ck207 : q_ck 207 = true := by decide +kernel
theorem q_ck208 : q_ck 208 = true := by decide +kernel
theorem q_ck209 : q_ck 209 = true := by decide +kernel
theorem q_ck210 : q_ck 210 = true := by decide +kernel
theorem q_ck211 : q_ck 211 = true := by decide +kernel
theorem q_ck212 : q_ck 212 = true := by decide +kernel
theorem q_ck213 : q_ck 213 = true := by decide +kernel
theorem q_ck214 : q_ck 214 = true := by decide +kernel
theorem q_ck215 : q_ck 215 = true := by decide +kernel
theorem q_ck216 : q_ck 216 = true := by decide +kernel
theorem q_ck217 : q_ck 217 = true := by decide +kernel
theorem q_ck218 : q_ck 218 = true := by decide +kernel
theorem q_ck219 : q_ck 219 = true := by decide +kernel
theorem q_ck220 : q_ck 220 = true := by decide +kernel
theorem q_ck221 : q_ck 221 = true := by decide +kernel
theorem q_ck222 : q_ck 222 = true := by decide +kernel
theorem q_ck223 : q_ck 223 = true := by decide +kernel
theorem q_ck224 : q_ck 224 = true := by decide +kernel
theorem q_ck225 : q_ck 225 = true := by decide +kernel
theorem q_ck226 : q_ck 226 = true := by decide +kernel
theorem q_ck227 : q_ck 227 = true := by decide +kernel
