noncomputable def fM_init (l0 : Nat) (I : am_M) (P : am_Q) (nx : Nat) (sl : Nat) : Option (am_S) :=
  sm_ck (am_t l0 = 13) <|
  sm_na 20 7 I nx sl fun a2 I3 n4 s5 =>
  sm_bd (am_up P l0 0 a2) fun P8 =>
  sm_na 20 9 I3 n4 s5 fun a9 I10 n11 s12 =>
  sm_ck (sm_iw a9 0) <|
  sm_bd (am_up I10 a9 (0 : Int32).toNatClampNeg 0) fun I16 =>
  sm_ck (sm_iw a9 1) <|
  sm_bd (am_up I16 a9 (1 : Int32).toNatClampNeg 0) fun I18 =>
  sm_ck (sm_iw a9 2) <|
  sm_bd (am_up I18 a9 (2 : Int32).toNatClampNeg 0) fun I20 =>
  sm_ck (sm_iw a9 3) <|
  sm_bd (am_up I20 a9 (3 : Int32).toNatClampNeg 0) fun I22 =>
  sm_ck (sm_iw a9 4) <|
  sm_bd (am_up I22 a9 (4 : Int32).toNatClampNeg 0) fun I24 =>
  sm_ck (sm_iw a9 5) <|
  sm_bd (am_up I24 a9 (5 : Int32).toNatClampNeg 10) fun I26 =>
  sm_ck (sm_iw a9 6) <|
  sm_bd (am_up I26 a9 (6 : Int32).toNatClampNeg 0) fun I28 =>
  sm_ck (sm_iw a9 7) <|
  sm_bd (am_up I28 a9 (7 : Int32).toNatClampNeg ((-1))) fun I30 =>
  sm_ck (sm_iw a9 8) <|
  sm_bd (am_up I30 a9 (8 : Int32).toNatClampNeg ((-1))) fun I32 =>
  sm_bd (am_up P8 l0 1 a9) fun P33 =>
  sm_na 20 7 I32 n11 s12 fun a34 I35 n36 s37 =>
  sm_bd (am_up P33 l0 2 a34) fun P40 =>
  sm_na 20 7 I35 n36 s37 fun a41 I42 n43 s44 =>
  sm_bd (am_up P40 l0 3 a41) fun P47 =>
  sm_na 20 7 I42 n43 s44 fun a48 I49 n50 s51 =>
  sm_bd (am_up P47 l0 4 a48) fun P54 =>
  sm_na 20 7 I49 n50 s51 fun a55 I56 n57 s58 =>
  sm_bd (am_up P54 l0 5 a55) fun P61 =>
  sm_na 20 7 I56 n57 s58 fun a62 I63 n64 s65 =>
  sm_bd (am_up P61 l0 6 a62) fun P68 =>
  sm_na 20 7 I63 n64 s65 fun a69 I70 n71 s72 =>
  sm_bd (am_up P68 l0 7 a69) fun P75 =>
  sm_na 20 7 I70 n71 s72 fun a76 I77 n78 s79 =>
  sm_bd (am_up P75 l0 8 a76) fun P82 =>
  sm_na 20 14 I77 n78 s79 fun a83 I84 n85 s86 =>
  sm_bd (am_up P82 l0 9 a83) fun P89 =>
  sm_na 20 14 I84 n85 s86 fun a90 I91 n92 s93 =>
  sm_bd (am_up P89 l0 10 a90) fun P96 =>
  sm_na 20 28 I91 n92 s93 fun a97 I98 n99 s100 =>
  sm_bd (am_up P96 l0 11 a97) fun P103 =>
  sm_na 20 28 I98 n99 s100 fun a104 I105 n106 s107 =>
  sm_bd (am_up P103 l0 12 a104) fun P110 =>
  sm_na 20 560 I105 n106 s107 fun a111 I112 n113 s114 =>
  sm_bd (am_up P110 l0 13 a111) fun P117 =>
  sm_na 20 560 I112 n113 s114 fun a118 I119 n120 s121 =>
  sm_bd (am_up P117 l0 14 a118) fun P124 =>
  sm_na 20 14 I119 n120 s121 fun a125 I126 n127 s128 =>
  sm_bd (am_up P124 l0 15 a125) fun P131 =>
  sm_na 20 14 I126 n127 s128 fun a132 I133 n134 s135 =>
  sm_bd (am_up P131 l0 16 a132) fun P138 =>
  sm_na 20 14 I133 n134 s135 fun a139 I140 n141 s142 =>
  sm_bd (am_up P138 l0 17 a139) fun P145 =>
  sm_na 20 14 I140 n141 s142 fun a146 I147 n148 s149 =>
  sm_bd (am_up P145 l0 18 a146) fun P152 =>
  sm_na 20 14 I147 n148 s149 fun a153 I154 n155 s156 =>
  sm_bd (am_up P152 l0 19 a153) fun P159 =>
  sm_na 20 14 I154 n155 s156 fun a160 I161 n162 s163 =>
  sm_bd (am_up P159 l0 20 a160) fun P166 =>
  sm_na 20 14 I161 n162 s163 fun a167 I168 n169 s170 =>
  sm_bd (am_up P166 l0 21 a167) fun P173 =>
  sm_na 20 14 I168 n169 s170 fun a174 I175 n176 s177 =>
  sm_bd (am_up P173 l0 22 a174) fun P180 =>
  sm_na 20 20 I175 n176 s177 fun a181 I182 n183 s184 =>
  sm_bd (am_up P180 l0 23 a181) fun P187 =>
  sm_na 20 20 I182 n183 s184 fun a188 I189 n190 s191 =>
  sm_bd (am_up P187 l0 24 a188) fun P194 =>
  sm_na 20 20 I189 n190 s191 fun a195 I196 n197 s198 =>
  sm_bd (am_up P194 l0 25 a195) fun P201 =>
  sm_na 20 13500 I196 n197 s198 fun a202 I203 n204 s205 =>
  sm_bd (am_up P201 l0 26 a202) fun P208 =>
  sm_na 20 80 I203 n204 s205 fun a209 I210 n211 s212 =>
  sm_bd (am_up P208 l0 30 a209) fun P215 =>
  sm_na 20 80 I210 n211 s212 fun a216 I217 n218 s219 =>
  sm_bd (am_up P215 l0 31 a216) fun P222 =>
  sm_na 20 80 I217 n218 s219 fun a223 I224 n225 s226 =>
  sm_bd (am_up P222 l0 33 a223) fun P229 =>
  sm_na 20 80 I224 n225 s226 fun a230 I231 n232 s233 =>
  sm_bd (am_up P229 l0 34 a230) fun P236 =>
  sm_na 20 4 I231 n232 s233 fun a237 I238 n239 s240 =>
  sm_bd (am_up P236 l0 35 a237) fun P243 =>
  sm_na 20 4 I238 n239 s240 fun a244 I245 n246 s247 =>
  sm_bd (am_up P243 l0 36 a244) fun P250 =>
  sm_na 20 14 I245 n246 s247 fun a251 I252 n253 s254 =>
  sm_bd (am_up P250 l0 41 a251) fun P257 =>
  sm_na 20 14 I252 n253 s254 fun a258 I259 n260 s261 =>
  sm_bd (am_up P257 l0 42 a258) fun P264 =>
  sm_na 20 14 I259 n260 s261 fun a265 I266 n267 s268 =>
  sm_bd (am_up P264 l0 43 a265) fun P271 =>
  sm_na 20 14 I266 n267 s268 fun a272 I273 n274 s275 =>
  sm_bd (am_up P271 l0 44 a272) fun P278 =>
  sm_na 20 4 I273 n274 s275 fun a279 I280 n281 s282 =>
  sm_bd (am_up P278 l0 47 a279) fun P285 =>
  sm_na 20 4 I280 n281 s282 fun a286 I287 n288 s289 =>
  sm_bd (am_up P285 l0 48 a286) fun P292 =>
  sm_na 20 96 I287 n288 s289 fun a293 I294 n295 s296 =>
  sm_bd (am_up P292 l0 49 a293) fun P299 =>
  sm_na 20 5 I294 n295 s296 fun a300 I301 n302 s303 =>
  sm_bd (am_up P299 l0 51 a300) fun P306 =>
  sm_na 20 5 I301 n302 s303 fun a307 I308 n309 s310 =>
  sm_bd (am_up P306 l0 52 a307) fun P313 =>
  sm_na 20 7 I308 n309 s310 fun a314 I315 n316 s317 =>
  sm_bd (am_up P313 l0 54 a314) fun P320 =>
  sm_na 20 7 I315 n316 s317 fun a321 I322 n323 s324 =>
  sm_bd (am_up P320 l0 55 a321) fun P327 =>
  sm_na 20 3 I322 n323 s324 fun a328 I329 n330 s331 =>
  sm_bd (am_up P327 l0 56 a328) fun P334 =>
  sm_na 20 7 I329 n330 s331 fun a335 I336 n337 s338 =>
  sm_bd (am_up P334 l0 57 a335) fun P341 =>
  sm_na 20 420 I336 n337 s338 fun a342 I343 n344 s345 =>
  sm_bd (am_up P341 l0 58 a342) fun P348 =>
  sm_na 20 24 I343 n344 s345 fun a349 I350 n351 s352 =>
  sm_bd (am_up P348 l0 61 a349) fun P355 =>
  some (I350, P355, n351, s352)
set_option maxRecDepth 100000 in
theorem AfM_init {dp : Nat}  {I : am_M} {P : am_Q} {nx : Nat} {sl : Nat} {l0 : Nat} {y : am_S} (hy : fM_init l0 I P nx sl = some y) : sm_T (dp + 1) 141 [.inr l0] (I, P, nx, sl) (sm_g4 y) := by
  refine r_meth (d := am_d141) (dp := dp + 0) (ls0 := [some (.inr l0)]) rfl (by decide) rfl rfl ?_ hy
  unfold fM_init
  refine r_ck (fun h1 => ?_)
  refine r_aload rfl rfl (am_nz h1) ?_
  refine r_oinit rfl (am_nz h1) (Nat.le_of_ble_eq_true rfl) ?_
  refine r_aload rfl rfl (am_nz h1) ?_
  refine r_const (x := 7) rfl rfl ?_
  refine r_newa rfl (by decide) (by decide) (by decide) (fun a2 I3 n4 s5 h6 h7 => ?_)
  refine r_putP rfl h1 (fun P8 => ?_)
  refine r_aload rfl rfl (am_nz h1) ?_
  refine r_const (x := 9) rfl rfl ?_
  refine r_newa rfl (by decide) (by decide) (by decide) (fun a9 I10 n11 s12 h13 h14 => ?_)
  refine r_dup rfl ?_
  refine r_const (x := 0) rfl rfl ?_
  refine r_const (x := 0) rfl rfl ?_
  refine r_ck (fun h15 => ?_)
  refine r_iast rfl h15 (fun I16 => ?_)
  refine r_dup rfl ?_
  refine r_const (x := 1) rfl rfl ?_
  refine r_const (x := 0) rfl rfl ?_
  refine r_ck (fun h17 => ?_)
  refine r_iast rfl h17 (fun I18 => ?_)
  refine r_dup rfl ?_
  refine r_const (x := 2) rfl rfl ?_
  refine r_const (x := 0) rfl rfl ?_
  refine r_ck (fun h19 => ?_)
  refine r_iast rfl h19 (fun I20 => ?_)
  refine r_dup rfl ?_
  refine r_const (x := 3) rfl rfl ?_
  refine r_const (x := 0) rfl rfl ?_
  refine r_ck (fun h21 => ?_)
  refine r_iast rfl h21 (fun I22 => ?_)
  refine r_dup rfl ?_
  refine r_const (x := 4) rfl rfl ?_
  refine r_const (x := 0) rfl rfl ?_
  refine r_ck (fun h23 => ?_)
  refine r_iast rfl h23 (fun I24 => ?_)
  refine r_dup rfl ?_
  refine r_const (x := 5) rfl rfl ?_
  refine r_const (x := 10) rfl rfl ?_
  refine r_ck (fun h25 => ?_)
  refine r_iast rfl h25 (fun I26 => ?_)
  refine r_dup rfl ?_
  refine r_const (x := 6) rfl rfl ?_
  refine r_const (x := 0) rfl rfl ?_
  refine r_ck (fun h27 => ?_)
  refine r_iast rfl h27 (fun I28 => ?_)
  refine r_dup rfl ?_
  refine r_const (x := 7) rfl rfl ?_
  refine r_const (x := (-1)) rfl rfl ?_
  refine r_ck (fun h29 => ?_)
  refine r_iast rfl h29 (fun I30 => ?_)
  refine r_dup rfl ?_
  refine r_const (x := 8) rfl rfl ?_
  refine r_const (x := (-1)) rfl rfl ?_
  refine r_ck (fun h31 => ?_)
  refine r_iast rfl h31 (fun I32 => ?_)
  refine r_putP rfl h1 (fun P33 => ?_)
  refine r_aload rfl rfl (am_nz h1) ?_
  refine r_const (x := 7) rfl rfl ?_
  refine r_newa rfl (by decide) (by decide) (by decide) (fun a34 I35 n36 s37 h38 h39 => ?_)
  refine r_putP rfl h1 (fun P40 => ?_)
  refine r_aload rfl rfl (am_nz h1) ?_
  refine r_const (x := 7) rfl rfl ?_
  refine r_newa rfl (by decide) (by decide) (by decide) (fun a41 I42 n43 s44 h45 h46 => ?_)
  refine r_putP rfl h1 (fun P47 => ?_)
  refine r_aload rfl rfl (am_nz h1) ?_
  refine r_const (x := 7) rfl rfl ?_
  refine r_newa rfl (by decide) (by decide) (by decide) (fun a48 I49 n50 s51 h52 h53 => ?_)
  refine r_putP rfl h1 (fun P54 => ?_)
  refine r_aload rfl rfl (am_nz h1) ?_
  refine r_const (x := 7) rfl rfl ?_
  refine r_newa rfl (by decide) (by decide) (by decide) (fun a55 I56 n57 s58 h59 h60 => ?_)
  refine r_putP rfl h1 (fun P61 => ?_)
  refine r_aload rfl rfl (am_nz h1) ?_
  refine r_const (x := 7) rfl rfl ?_
  refine r_newa rfl (by decide) (by decide) (by decide) (fun a62 I63 n64 s65 h66 h67 => ?_)
  refine r_putP rfl h1 (fun P68 => ?_)
  refine r_aload rfl rfl (am_nz h1) ?_
  refine r_const (x := 7) rfl rfl ?_
  refine r_newa rfl (by decide) (by decide) (by decide) (fun a69 I70 n71 s72 h73 h74 => ?_)
  refine r_putP rfl h1 (fun P75 => ?_)
  refine r_aload rfl rfl (am_nz h1) ?_
  refine r_const (x := 7) rfl rfl ?_
  refine r_newa rfl (by decide) (by decide) (by decide) (fun a76 I77 n78 s79 h80 h81 => ?_)
  refine r_putP rfl h1 (fun P82 => ?_)
  refine r_aload rfl rfl (am_nz h1) ?_
  refine r_const (x := 14) rfl rfl ?_
  refine r_newa rfl (by decide) (by decide) (by decide) (fun a83 I84 n85 s86 h87 h88 => ?_)
  refine r_putP rfl h1 (fun P89 => ?_)
  refine r_aload rfl rfl (am_nz h1) ?_
  refine r_const (x := 14) rfl rfl ?_
  refine r_newa rfl (by decide) (by decide) (by decide) (fun a90 I91 n92 s93 h94 h95 => ?_)
  refine r_putP rfl h1 (fun P96 => ?_)
  refine r_aload rfl rfl (am_nz h1) ?_
  refine r_const (x := 28) rfl rfl ?_
  refine r_newa rfl (by decide) (by decide) (by decide) (fun a97 I98 n99 s100 h101 h102 => ?_)
  refine r_putP rfl h1 (fun P103 => ?_)
  refine r_aload rfl rfl (am_nz h1) ?_
  refine r_const (x := 28) rfl rfl ?_
  refine r_newa rfl (by decide) (by decide) (by decide) (fun a104 I105 n106 s107 h108 h109 => ?_)
  refine r_putP rfl h1 (fun P110 => ?_)
  refine r_aload rfl rfl (am_nz h1) ?_
  refine r_const (x := 560) rfl rfl ?_
  refine r_newa rfl (by decide) (by decide) (by decide) (fun a111 I112 n113 s114 h115 h116 => ?_)
  refine r_putP rfl h1 (fun P117 => ?_)
  refine r_aload rfl rfl (am_nz h1) ?_
  refine r_const (x := 560) rfl rfl ?_
  refine r_newa rfl (by decide) (by decide) (by decide) (fun a118 I119 n120 s121 h122 h123 => ?_)
  refine r_putP rfl h1 (fun P124 => ?_)
  refine r_aload rfl rfl (am_nz h1) ?_
  refine r_const (x := 14) rfl rfl ?_
  refine r_newa rfl (by decide) (by decide) (by decide) (fun a125 I126 n127 s128 h129 h130 => ?_)
  refine r_putP rfl h1 (fun P131 => ?_)
  refine r_aload rfl rfl (am_nz h1) ?_
  refine r_const (x := 14) rfl rfl ?_
  refine r_newa rfl (by decide) (by decide) (by decide) (fun a132 I133 n134 s135 h136 h137 => ?_)
  refine r_putP rfl h1 (fun P138 => ?_)
  refine r_aload rfl rfl (am_nz h1) ?_
  refine r_const (x := 14) rfl rfl ?_
  refine r_newa rfl (by decide) (by decide) (by decide) (fun a139 I140 n141 s142 h143 h144 => ?_)
  refine r_putP rfl h1 (fun P145 => ?_)
  refine r_aload rfl rfl (am_nz h1) ?_
  refine r_const (x := 14) rfl rfl ?_
  refine r_newa rfl (by decide) (by decide) (by decide) (fun a146 I147 n148 s149 h150 h151 => ?_)
  refine r_putP rfl h1 (fun P152 => ?_)
  refine r_aload rfl rfl (am_nz h1) ?_
  refine r_const (x := 14) rfl rfl ?_
  refine r_newa rfl (by decide) (by decide) (by decide) (fun a153 I154 n155 s156 h157 h158 => ?_)
  refine r_putP rfl h1 (fun P159 => ?_)
  refine r_aload rfl rfl (am_nz h1) ?_
  refine r_const (x := 14) rfl rfl ?_
  refine r_newa rfl (by decide) (by decide) (by decide) (fun a160 I161 n162 s163 h164 h165 => ?_)
  refine r_putP rfl h1 (fun P166 => ?_)
  refine r_aload rfl rfl (am_nz h1) ?_
  refine r_const (x := 14) rfl rfl ?_
  refine r_newa rfl (by decide) (by decide) (by decide) (fun a167 I168 n169 s170 h171 h172 => ?_)
  refine r_putP rfl h1 (fun P173 => ?_)
  refine r_aload rfl rfl (am_nz h1) ?_
  refine r_const (x := 14) rfl rfl ?_
  refine r_newa rfl (by decide) (by decide) (by decide) (fun a174 I175 n176 s177 h178 h179 => ?_)
  refine r_putP rfl h1 (fun P180 => ?_)
  refine r_aload rfl rfl (am_nz h1) ?_
  refine r_const (x := 20) rfl rfl ?_
  refine r_newa rfl (by decide) (by decide) (by decide) (fun a181 I182 n183 s184 h185 h186 => ?_)
  refine r_putP rfl h1 (fun P187 => ?_)
  refine r_aload rfl rfl (am_nz h1) ?_
  refine r_const (x := 20) rfl rfl ?_
  refine r_newa rfl (by decide) (by decide) (by decide) (fun a188 I189 n190 s191 h192 h193 => ?_)
  refine r_putP rfl h1 (fun P194 => ?_)
  refine r_aload rfl rfl (am_nz h1) ?_
  refine r_const (x := 20) rfl rfl ?_
  refine r_newa rfl (by decide) (by decide) (by decide) (fun a195 I196 n197 s198 h199 h200 => ?_)
  refine r_putP rfl h1 (fun P201 => ?_)
  refine r_aload rfl rfl (am_nz h1) ?_
  refine r_const (x := 13500) rfl rfl ?_
  refine r_newa rfl (by decide) (by decide) (by decide) (fun a202 I203 n204 s205 h206 h207 => ?_)
  refine r_putP rfl h1 (fun P208 => ?_)
  refine r_aload rfl rfl (am_nz h1) ?_
  refine r_const (x := 80) rfl rfl ?_
  refine r_newa rfl (by decide) (by decide) (by decide) (fun a209 I210 n211 s212 h213 h214 => ?_)
  refine r_putP rfl h1 (fun P215 => ?_)
  refine r_aload rfl rfl (am_nz h1) ?_
  refine r_const (x := 80) rfl rfl ?_
  refine r_newa rfl (by decide) (by decide) (by decide) (fun a216 I217 n218 s219 h220 h221 => ?_)
  refine r_putP rfl h1 (fun P222 => ?_)
  refine r_aload rfl rfl (am_nz h1) ?_
  refine r_const (x := 80) rfl rfl ?_
  refine r_newa rfl (by decide) (by decide) (by decide) (fun a223 I224 n225 s226 h227 h228 => ?_)
  refine r_putP rfl h1 (fun P229 => ?_)
  refine r_aload rfl rfl (am_nz h1) ?_
  refine r_const (x := 80) rfl rfl ?_
  refine r_newa rfl (by decide) (by decide) (by decide) (fun a230 I231 n232 s233 h234 h235 => ?_)
  refine r_putP rfl h1 (fun P236 => ?_)
  refine r_aload rfl rfl (am_nz h1) ?_
  refine r_const (x := 4) rfl rfl ?_
  refine r_newa rfl (by decide) (by decide) (by decide) (fun a237 I238 n239 s240 h241 h242 => ?_)
  refine r_putP rfl h1 (fun P243 => ?_)
  refine r_aload rfl rfl (am_nz h1) ?_
  refine r_const (x := 4) rfl rfl ?_
  refine r_newa rfl (by decide) (by decide) (by decide) (fun a244 I245 n246 s247 h248 h249 => ?_)
  refine r_putP rfl h1 (fun P250 => ?_)
  refine r_aload rfl rfl (am_nz h1) ?_
  refine r_const (x := 14) rfl rfl ?_
  refine r_newa rfl (by decide) (by decide) (by decide) (fun a251 I252 n253 s254 h255 h256 => ?_)
  refine r_putP rfl h1 (fun P257 => ?_)
  refine r_aload rfl rfl (am_nz h1) ?_
  refine r_const (x := 14) rfl rfl ?_
  refine r_newa rfl (by decide) (by decide) (by decide) (fun a258 I259 n260 s261 h262 h263 => ?_)
  refine r_putP rfl h1 (fun P264 => ?_)
  refine r_aload rfl rfl (am_nz h1) ?_
  refine r_const (x := 14) rfl rfl ?_
  refine r_newa rfl (by decide) (by decide) (by decide) (fun a265 I266 n267 s268 h269 h270 => ?_)
  refine r_putP rfl h1 (fun P271 => ?_)
  refine r_aload rfl rfl (am_nz h1) ?_
  refine r_const (x := 14) rfl rfl ?_
  refine r_newa rfl (by decide) (by decide) (by decide) (fun a272 I273 n274 s275 h276 h277 => ?_)
  refine r_putP rfl h1 (fun P278 => ?_)
  refine r_aload rfl rfl (am_nz h1) ?_
  refine r_const (x := 4) rfl rfl ?_
  refine r_newa rfl (by decide) (by decide) (by decide) (fun a279 I280 n281 s282 h283 h284 => ?_)
  refine r_putP rfl h1 (fun P285 => ?_)
  refine r_aload rfl rfl (am_nz h1) ?_
  refine r_const (x := 4) rfl rfl ?_
  refine r_newa rfl (by decide) (by decide) (by decide) (fun a286 I287 n288 s289 h290 h291 => ?_)
  refine r_putP rfl h1 (fun P292 => ?_)
  refine r_aload rfl rfl (am_nz h1) ?_
  refine r_const (x := 96) rfl rfl ?_
  refine r_newa rfl (by decide) (by decide) (by decide) (fun a293 I294 n295 s296 h297 h298 => ?_)
  refine r_putP rfl h1 (fun P299 => ?_)
  refine r_aload rfl rfl (am_nz h1) ?_
  refine r_const (x := 5) rfl rfl ?_
  refine r_newa rfl (by decide) (by decide) (by decide) (fun a300 I301 n302 s303 h304 h305 => ?_)
  refine r_putP rfl h1 (fun P306 => ?_)
  refine r_aload rfl rfl (am_nz h1) ?_
  refine r_const (x := 5) rfl rfl ?_
  refine r_newa rfl (by decide) (by decide) (by decide) (fun a307 I308 n309 s310 h311 h312 => ?_)
  refine r_putP rfl h1 (fun P313 => ?_)
  refine r_aload rfl rfl (am_nz h1) ?_
  refine r_const (x := 7) rfl rfl ?_
  refine r_newa rfl (by decide) (by decide) (by decide) (fun a314 I315 n316 s317 h318 h319 => ?_)
  refine r_putP rfl h1 (fun P320 => ?_)
  refine r_aload rfl rfl (am_nz h1) ?_
  refine r_const (x := 7) rfl rfl ?_
  refine r_newa rfl (by decide) (by decide) (by decide) (fun a321 I322 n323 s324 h325 h326 => ?_)
  refine r_putP rfl h1 (fun P327 => ?_)
  refine r_aload rfl rfl (am_nz h1) ?_
  refine r_const (x := 3) rfl rfl ?_
  refine r_newa rfl (by decide) (by decide) (by decide) (fun a328 I329 n330 s331 h332 h333 => ?_)
  refine r_putP rfl h1 (fun P334 => ?_)
  refine r_aload rfl rfl (am_nz h1) ?_
  refine r_const (x := 7) rfl rfl ?_
  refine r_newa rfl (by decide) (by decide) (by decide) (fun a335 I336 n337 s338 h339 h340 => ?_)
  refine r_putP rfl h1 (fun P341 => ?_)
  refine r_aload rfl rfl (am_nz h1) ?_
  refine r_const (x := 420) rfl rfl ?_
  refine r_newa rfl (by decide) (by decide) (by decide) (fun a342 I343 n344 s345 h346 h347 => ?_)
  refine r_putP rfl h1 (fun P348 => ?_)
  refine r_aload rfl rfl (am_nz h1) ?_
  refine r_const (x := 24) rfl rfl ?_
  refine r_newa rfl (by decide) (by decide) (by decide) (fun a349 I350 n351 s352 h353 h354 => ?_)
  refine r_putP rfl h1 (fun P355 => ?_)
  exact r_return rfl rfl
noncomputable def fM_within (l0 : Int32) (l1 : Int32) (l2 : Int32) : Option (Int32) :=
  if l0 < l1 then
    (some 0)
  else
    (if l2 < l0 then
      (some 0)
    else
      (some 1))
set_option maxRecDepth 100000 in
theorem AfM_within {dp : Nat} {S : am_S} {l0 : Int32} {l1 : Int32} {l2 : Int32} {y : Int32} (hy : fM_within l0 l1 l2 = some y) : sm_T (dp + 1) 143 [.inl l0, .inl l1, .inl l2] S ((sm_g0 S) y) := by
  refine r_meth (d := am_d143) (dp := dp + 0) (ls0 := [some (.inl l0), some (.inl l1), some (.inl l2)]) rfl (by decide) rfl rfl ?_ hy
  unfold fM_within
  refine r_iload rfl rfl ?_
  refine r_iload rfl rfl ?_
  refine r_icmp rfl rfl (fun c1 => ?_) (fun c1 => ?_)
  · refine r_const (x := 0) rfl rfl ?_
    exact r_ireturn rfl (Or.inr ⟨rfl, sm_010⟩) rfl
  · refine r_iload rfl rfl ?_
    refine r_iload rfl rfl ?_
    refine r_icmp rfl rfl (fun c2 => ?_) (fun c2 => ?_)
    · refine r_const (x := 0) rfl rfl ?_
      exact r_ireturn rfl (Or.inr ⟨rfl, sm_010⟩) rfl
    · refine r_const (x := 1) rfl rfl ?_
      refine r_goto rfl ?_
      exact r_ireturn rfl (Or.inr ⟨rfl, sm_011⟩) rfl
noncomputable def fM_finds (P : am_Q) (l0 : Nat) (l1 : Int32) (I : am_M) : Option (Int32 × am_M) :=
  sm_ck (am_t l0 = 13) <|
  sm_ck (sm_in (P l0 0) (((-1000001)) - l1)) <|
  sm_ck (sm_iw (P l0 0) (((-1000001)) - l1)) <|
  sm_bd (am_up I (P l0 0) (((-1000001)) - l1).toNatClampNeg ((I (P l0 0) (((-1000001)) - l1).toNatClampNeg) + 1)) fun I4 =>
  some (l1, I4)
set_option maxRecDepth 100000 in
theorem AfM_finds {dp : Nat} {P : am_Q} {nx : Nat} {sl : Nat} {I : am_M} {l0 : Nat} {l1 : Int32} {y : Int32 × am_M} (hy : fM_finds P l0 l1 I = some y) : sm_T (dp + 1) 144 [.inr l0, .inl l1] (I, P, nx, sl) ((sm_g1 P nx sl) y) := by
  refine r_meth (d := am_d144) (dp := dp + 0) (ls0 := [some (.inr l0), some (.inl l1)]) rfl (by decide) rfl rfl ?_ hy
  unfold fM_finds
  refine r_ck (fun h1 => ?_)
  refine r_aload rfl rfl (am_nz h1) ?_
  refine r_getP rfl h1 ?_
  refine r_const (x := (-1000001)) rfl rfl ?_
  refine r_iload rfl rfl ?_
  refine r_bin (z := ((-1000001)) - l1) rfl rfl (by decide) ?_
  refine r_dup2 rfl ?_
  refine r_ck (fun h2 => ?_)
  refine r_iald rfl h2 ?_
  refine r_const (x := 1) rfl rfl ?_
  refine r_bin (z := (I (P l0 0) (((-1000001)) - l1).toNatClampNeg) + 1) rfl rfl (by decide) ?_
  refine r_ck (fun h3 => ?_)
  refine r_iast rfl h3 (fun I4 => ?_)
  refine r_iload rfl rfl ?_
  exact r_ireturn rfl (Or.inl rfl) rfl
noncomputable def fM_whole (P : am_Q) (l0 : Nat) (l1 : Int32) (I : am_M) : Option (Int32 × am_M) :=
  Option.bind (fM_within l1 2 16) fun y1 =>
  if ¬ y1 = 0 then
    (sm_ck (am_t l0 = 13) <|
    sm_ck (sm_in (P l0 1) 0) <|
    if (I (P l0 1) (0 : Int32).toNatClampNeg) ≤ 0 then
      (sm_ck (sm_in (P l0 1) 5) <|
      sm_bd (I (P l0 1) (5 : Int32).toNatClampNeg) fun x7 =>
      sm_ck (sm_iw (P l0 1) 5) <|
      sm_bd (am_up I (P l0 1) (5 : Int32).toNatClampNeg l1) fun I9 =>
      some (x7, I9))
    else
      (Option.bind (fM_finds P l0 ((-1000005)) I) fun y10 =>
      some (y10.1, y10.2)))
  else
    (sm_ck (am_t l0 = 13) <|
    Option.bind (fM_finds P l0 ((-1000001)) I) fun y12 =>
    some (y12.1, y12.2))
set_option maxRecDepth 100000 in
theorem AfM_whole {dp : Nat} {P : am_Q} {nx : Nat} {sl : Nat} {I : am_M} {l0 : Nat} {l1 : Int32} {y : Int32 × am_M} (hy : fM_whole P l0 l1 I = some y) : sm_T (dp + 2) 142 [.inr l0, .inl l1] (I, P, nx, sl) ((sm_g1 P nx sl) y) := by
  refine r_meth (d := am_d142) (dp := dp + 1) (ls0 := [some (.inr l0), some (.inl l1), none]) rfl (by decide) rfl rfl ?_ hy
  unfold fM_whole
  refine r_iload rfl rfl ?_
  refine r_const (x := 2) rfl rfl ?_
  refine r_const (x := 16) rfl rfl ?_
  refine r_call0 rfl rfl trivial (fun y hy => AfM_within (dp := dp + 0) hy) (fun y1 => ?_)
  refine r_if rfl rfl (fun c2 => ?_) (fun c2 => ?_)
  · refine r_ck (fun h3 => ?_)
    refine r_aload rfl rfl (am_nz h3) ?_
    refine r_getP rfl h3 ?_
    refine r_const (x := 0) rfl rfl ?_
    refine r_ck (fun h4 => ?_)
    refine r_iald rfl h4 ?_
    refine r_if rfl rfl (fun c5 => ?_) (fun c5 => ?_)
    · refine r_aload rfl rfl (am_nz h3) ?_
      refine r_getP rfl h3 ?_
      refine r_const (x := 5) rfl rfl ?_
      refine r_ck (fun h6 => ?_)
      refine r_iald rfl h6 ?_
      refine r_bd (fun x7 => ?_)
      refine r_istore (ls' := [some (.inr l0), some (.inl l1), some (.inl x7)]) rfl (Nat.le_of_ble_eq_true rfl) rfl ?_
      refine r_aload rfl rfl (am_nz h3) ?_
      refine r_getP rfl h3 ?_
      refine r_const (x := 5) rfl rfl ?_
      refine r_iload rfl rfl ?_
      refine r_ck (fun h8 => ?_)
      refine r_iast rfl h8 (fun I9 => ?_)
      refine r_iload rfl rfl ?_
      exact r_ireturn rfl (Or.inl rfl) rfl
    · refine r_aload rfl rfl (am_nz h3) ?_
      refine r_const (x := (-1000005)) rfl rfl ?_
      refine r_call1 rfl rfl h3 (fun y hy => AfM_finds (dp := dp + 0) hy) (fun y10 => ?_)
      exact r_ireturn rfl (Or.inl rfl) rfl
  · refine r_ck (fun h11 => ?_)
    refine r_aload rfl rfl (am_nz h11) ?_
    refine r_const (x := (-1000001)) rfl rfl ?_
    refine r_call1 rfl rfl h11 (fun y hy => AfM_finds (dp := dp + 0) hy) (fun y12 => ?_)
    exact r_ireturn rfl (Or.inl rfl) rfl
noncomputable def fM_isPart (I : am_M) (P : am_Q) (l0 : Nat) (l1 : Int32) : Option (Int32) :=
  sm_ck (am_t l0 = 13) <|
  sm_ck (sm_in (P l0 1) 5) <|
  Option.bind (fM_within l1 0 ((I (P l0 1) (5 : Int32).toNatClampNeg) - 1)) fun y3 =>
  sm_ck (sm_01 y3) <|
  some y3
set_option maxRecDepth 100000 in
theorem AfM_isPart {dp : Nat} {I : am_M} {P : am_Q} {nx : Nat} {sl : Nat} {l0 : Nat} {l1 : Int32} {y : Int32} (hy : fM_isPart I P l0 l1 = some y) : sm_T (dp + 2) 147 [.inr l0, .inl l1] (I, P, nx, sl) ((sm_g0 (I, P, nx, sl)) y) := by
  refine r_meth (d := am_d147) (dp := dp + 1) (ls0 := [some (.inr l0), some (.inl l1)]) rfl (by decide) rfl rfl ?_ hy
  unfold fM_isPart
  refine r_iload rfl rfl ?_
  refine r_const (x := 0) rfl rfl ?_
  refine r_ck (fun h1 => ?_)
  refine r_aload rfl rfl (am_nz h1) ?_
  refine r_getP rfl h1 ?_
  refine r_const (x := 5) rfl rfl ?_
  refine r_ck (fun h2 => ?_)
  refine r_iald rfl h2 ?_
  refine r_const (x := 1) rfl rfl ?_
  refine r_bin (z := (I (P l0 1) (5 : Int32).toNatClampNeg) - 1) rfl rfl (by decide) ?_
  refine r_call0 rfl rfl trivial (fun y hy => AfM_within (dp := dp + 0) hy) (fun y3 => ?_)
  refine r_ck (fun h4 => ?_)
  exact r_ireturn rfl (Or.inr ⟨rfl, h4⟩) rfl
noncomputable def fM_arePair (I : am_M) (P : am_Q) (l0 : Nat) (l1 : Int32) : Option (Int32) :=
  if l1 < 0 then
    (some 0)
  else
    (sm_ck (am_t l0 = 13) <|
    Option.bind (fM_isPart I P l0 (l1 / 100)) fun y3 =>
    if y3 = 0 then
      (some 0)
    else
      (Option.bind (fM_isPart I P l0 (sm_rem l1 100)) fun y5 =>
      if y5 = 0 then
        (some 0)
      else
        (some 1)))
set_option maxRecDepth 100000 in
theorem AfM_arePair {dp : Nat} {I : am_M} {P : am_Q} {nx : Nat} {sl : Nat} {l0 : Nat} {l1 : Int32} {y : Int32} (hy : fM_arePair I P l0 l1 = some y) : sm_T (dp + 3) 146 [.inr l0, .inl l1] (I, P, nx, sl) ((sm_g0 (I, P, nx, sl)) y) := by
  refine r_meth (d := am_d146) (dp := dp + 2) (ls0 := [some (.inr l0), some (.inl l1)]) rfl (by decide) rfl rfl ?_ hy
  unfold fM_arePair
  refine r_iload rfl rfl ?_
  refine r_if rfl rfl (fun c1 => ?_) (fun c1 => ?_)
  · refine r_const (x := 0) rfl rfl ?_
    exact r_ireturn rfl (Or.inr ⟨rfl, sm_010⟩) rfl
  · refine r_ck (fun h2 => ?_)
    refine r_aload rfl rfl (am_nz h2) ?_
    refine r_iload rfl rfl ?_
    refine r_const (x := 100) rfl rfl ?_
    refine r_bin (z := l1 / 100) rfl (sm_dv (by decide)) (by decide) ?_
    refine r_call0 rfl rfl h2 (fun y hy => AfM_isPart (dp := dp + 0) hy) (fun y3 => ?_)
    refine r_if rfl rfl (fun c4 => ?_) (fun c4 => ?_)
    · refine r_const (x := 0) rfl rfl ?_
      exact r_ireturn rfl (Or.inr ⟨rfl, sm_010⟩) rfl
    · refine r_aload rfl rfl (am_nz h2) ?_
      refine r_iload rfl rfl ?_
      refine r_const (x := 100) rfl rfl ?_
      refine r_bin (z := sm_rem l1 100) rfl (sm_rv (by decide)) (by decide) ?_
      refine r_call0 rfl rfl h2 (fun y hy => AfM_isPart (dp := dp + 0) hy) (fun y5 => ?_)
      refine r_if rfl rfl (fun c6 => ?_) (fun c6 => ?_)
      · refine r_const (x := 0) rfl rfl ?_
        exact r_ireturn rfl (Or.inr ⟨rfl, sm_010⟩) rfl
      · refine r_const (x := 1) rfl rfl ?_
        refine r_goto rfl ?_
        exact r_ireturn rfl (Or.inr ⟨rfl, sm_011⟩) rfl
noncomputable def fM_box_B124 (P : am_Q) (e124_162 : Nat → Int32 → am_M → Option (Int32 × am_M)) (r124 : Nat → Int32 → Int32 → am_M → Option (Int32 × am_M)) (l0 : Nat) (l4 : Int32) (l5 : Int32) (I : am_M) : Option (Int32 × am_M) :=
  if 2 ≤ l5 then
    (e124_162 l0 l4 I)
  else
    (sm_ck (am_t l0 = 13) <|
    sm_ck (sm_iw (P l0 9) ((2 * l4) + l5)) <|
    sm_bd (am_up I (P l0 9) ((2 * l4) + l5).toNatClampNeg 0) fun I32 =>
    sm_ck (sm_iw (P l0 10) ((2 * l4) + l5)) <|
    sm_bd (am_up I32 (P l0 10) ((2 * l4) + l5).toNatClampNeg 0) fun I34 =>
    sm_bd (l5 + 1) fun x35 =>
    r124 l0 l4 x35 I34)
set_option maxRecDepth 100000 in
theorem AfM_box_B124 {dp : Nat} {P : am_Q} {nx : Nat} {sl : Nat} {e124_162 : Nat → Int32 → am_M → Option (Int32 × am_M)} {r124 : Nat → Int32 → Int32 → am_M → Option (Int32 × am_M)} (he124_162 : ∀ (l0 : Nat) (l4 : Int32) (I : am_M) (o1 : Option am_V) (o2 : Option am_V) (o3 : Option am_V) (o5 : Option am_V), sm (dp + 3) am_d145 162 [some (.inr l0), o1, o2, o3, some (.inl l4), o5] [] (I, P, nx, sl) (sm_g1 P nx sl) (e124_162 l0 l4 I)) (hr124 : ∀ (l0 : Nat) (l4 : Int32) (l5 : Int32) (I : am_M) (o1 : Option am_V) (o2 : Option am_V) (o3 : Option am_V), sm (dp + 3) am_d145 124 [some (.inr l0), o1, o2, o3, some (.inl l4), some (.inl l5)] [] (I, P, nx, sl) (sm_g1 P nx sl) (r124 l0 l4 l5 I)) (l0 : Nat) (l4 : Int32) (l5 : Int32) (I : am_M) (o1 : Option am_V) (o2 : Option am_V) (o3 : Option am_V) : sm (dp + 3) am_d145 124 [some (.inr l0), o1, o2, o3, some (.inl l4), some (.inl l5)] [] (I, P, nx, sl) (sm_g1 P nx sl) (fM_box_B124 P e124_162 r124 l0 l4 l5 I) := by
  unfold fM_box_B124
  refine r_iload rfl rfl ?_
  refine r_const (x := 2) rfl rfl ?_
  refine r_icmp rfl rfl (fun c29 => ?_) (fun c29 => ?_)
  · exact he124_162 l0 l4 I o1 o2 o3 (some (.inl l5))
  · refine r_ck (fun h30 => ?_)
    refine r_aload rfl rfl (am_nz h30) ?_
    refine r_getP rfl h30 ?_
    refine r_const (x := 2) rfl rfl ?_
    refine r_iload rfl rfl ?_
    refine r_bin (z := 2 * l4) rfl rfl (by decide) ?_
    refine r_iload rfl rfl ?_
    refine r_bin (z := (2 * l4) + l5) rfl rfl (by decide) ?_
    refine r_const (x := 0) rfl rfl ?_
    refine r_ck (fun h31 => ?_)
    refine r_iast rfl h31 (fun I32 => ?_)
    refine r_aload rfl rfl (am_nz h30) ?_
    refine r_getP rfl h30 ?_
    refine r_const (x := 2) rfl rfl ?_
    refine r_iload rfl rfl ?_
    refine r_bin (z := 2 * l4) rfl rfl (by decide) ?_
    refine r_iload rfl rfl ?_
    refine r_bin (z := (2 * l4) + l5) rfl rfl (by decide) ?_
    refine r_const (x := 0) rfl rfl ?_
    refine r_ck (fun h33 => ?_)
    refine r_iast rfl h33 (fun I34 => ?_)
    refine r_iinc (e := l5 + 1) (ls' := fun x35 => [some (.inr l0), o1, o2, o3, some (.inl l4), some (.inl x35)]) rfl rfl rfl (fun _ => rfl) (fun x35 => ?_)
    refine r_goto rfl ?_
    exact hr124 l0 l4 x35 I34 o1 o2 o3
noncomputable def fM_box_L124 (P : am_Q) (e124_162 : Nat → Int32 → am_M → Option (Int32 × am_M)) : Nat → Nat → Int32 → Int32 → am_M → Option (Int32 × am_M)
  | 0, _, _, _, _ => none
  | n + 1, l0, l4, l5, I => fM_box_B124 P e124_162 (fM_box_L124 P e124_162 n) l0 l4 l5 I
theorem AfM_box_L124 {dp : Nat} {P : am_Q} {nx : Nat} {sl : Nat} {e124_162 : Nat → Int32 → am_M → Option (Int32 × am_M)} (he124_162 : ∀ (l0 : Nat) (l4 : Int32) (I : am_M) (o1 : Option am_V) (o2 : Option am_V) (o3 : Option am_V) (o5 : Option am_V), sm (dp + 3) am_d145 162 [some (.inr l0), o1, o2, o3, some (.inl l4), o5] [] (I, P, nx, sl) (sm_g1 P nx sl) (e124_162 l0 l4 I)) (n : Nat) : ∀ (l0 : Nat) (l4 : Int32) (l5 : Int32) (I : am_M) (o1 : Option am_V) (o2 : Option am_V) (o3 : Option am_V), sm (dp + 3) am_d145 124 [some (.inr l0), o1, o2, o3, some (.inl l4), some (.inl l5)] [] (I, P, nx, sl) (sm_g1 P nx sl) (fM_box_L124 P e124_162 n l0 l4 l5 I) := by
  induction n with
  | zero => intro l0 l4 l5 I o1 o2 o3; exact sm_none
  | succ n ih => intro l0 l4 l5 I o1 o2 o3; exact AfM_box_B124 he124_162 ih l0 l4 l5 I o1 o2 o3
noncomputable def fM_box_B165 (P : am_Q) (e165_203 : Nat → Int32 → am_M → Option (Int32 × am_M)) (r165 : Nat → Int32 → Int32 → am_M → Option (Int32 × am_M)) (l0 : Nat) (l4 : Int32) (l5 : Int32) (I : am_M) : Option (Int32 × am_M) :=
  if 4 ≤ l5 then
    (e165_203 l0 l4 I)
  else
    (sm_ck (am_t l0 = 13) <|
    sm_ck (sm_iw (P l0 11) ((4 * l4) + l5)) <|
    sm_bd (am_up I (P l0 11) ((4 * l4) + l5).toNatClampNeg 0) fun I39 =>
    sm_ck (sm_iw (P l0 12) ((4 * l4) + l5)) <|
    sm_bd (am_up I39 (P l0 12) ((4 * l4) + l5).toNatClampNeg 0) fun I41 =>
    sm_bd (l5 + 1) fun x42 =>
    r165 l0 l4 x42 I41)
set_option maxRecDepth 100000 in
theorem AfM_box_B165 {dp : Nat} {P : am_Q} {nx : Nat} {sl : Nat} {e165_203 : Nat → Int32 → am_M → Option (Int32 × am_M)} {r165 : Nat → Int32 → Int32 → am_M → Option (Int32 × am_M)} (he165_203 : ∀ (l0 : Nat) (l4 : Int32) (I : am_M) (o1 : Option am_V) (o2 : Option am_V) (o3 : Option am_V) (o5 : Option am_V), sm (dp + 3) am_d145 203 [some (.inr l0), o1, o2, o3, some (.inl l4), o5] [] (I, P, nx, sl) (sm_g1 P nx sl) (e165_203 l0 l4 I)) (hr165 : ∀ (l0 : Nat) (l4 : Int32) (l5 : Int32) (I : am_M) (o1 : Option am_V) (o2 : Option am_V) (o3 : Option am_V), sm (dp + 3) am_d145 165 [some (.inr l0), o1, o2, o3, some (.inl l4), some (.inl l5)] [] (I, P, nx, sl) (sm_g1 P nx sl) (r165 l0 l4 l5 I)) (l0 : Nat) (l4 : Int32) (l5 : Int32) (I : am_M) (o1 : Option am_V) (o2 : Option am_V) (o3 : Option am_V) : sm (dp + 3) am_d145 165 [some (.inr l0), o1, o2, o3, some (.inl l4), some (.inl l5)] [] (I, P, nx, sl) (sm_g1 P nx sl) (fM_box_B165 P e165_203 r165 l0 l4 l5 I) := by
  unfold fM_box_B165
  refine r_iload rfl rfl ?_
  refine r_const (x := 4) rfl rfl ?_
  refine r_icmp rfl rfl (fun c36 => ?_) (fun c36 => ?_)
  · exact he165_203 l0 l4 I o1 o2 o3 (some (.inl l5))
  · refine r_ck (fun h37 => ?_)
    refine r_aload rfl rfl (am_nz h37) ?_
    refine r_getP rfl h37 ?_
    refine r_const (x := 4) rfl rfl ?_
    refine r_iload rfl rfl ?_
    refine r_bin (z := 4 * l4) rfl rfl (by decide) ?_
    refine r_iload rfl rfl ?_
    refine r_bin (z := (4 * l4) + l5) rfl rfl (by decide) ?_
    refine r_const (x := 0) rfl rfl ?_
    refine r_ck (fun h38 => ?_)
    refine r_iast rfl h38 (fun I39 => ?_)
    refine r_aload rfl rfl (am_nz h37) ?_
    refine r_getP rfl h37 ?_
    refine r_const (x := 4) rfl rfl ?_
    refine r_iload rfl rfl ?_
    refine r_bin (z := 4 * l4) rfl rfl (by decide) ?_
    refine r_iload rfl rfl ?_
    refine r_bin (z := (4 * l4) + l5) rfl rfl (by decide) ?_
    refine r_const (x := 0) rfl rfl ?_
    refine r_ck (fun h40 => ?_)
    refine r_iast rfl h40 (fun I41 => ?_)
    refine r_iinc (e := l5 + 1) (ls' := fun x42 => [some (.inr l0), o1, o2, o3, some (.inl l4), some (.inl x42)]) rfl rfl rfl (fun _ => rfl) (fun x42 => ?_)
    refine r_goto rfl ?_
    exact hr165 l0 l4 x42 I41 o1 o2 o3
noncomputable def fM_box_L165 (P : am_Q) (e165_203 : Nat → Int32 → am_M → Option (Int32 × am_M)) : Nat → Nat → Int32 → Int32 → am_M → Option (Int32 × am_M)
  | 0, _, _, _, _ => none
  | n + 1, l0, l4, l5, I => fM_box_B165 P e165_203 (fM_box_L165 P e165_203 n) l0 l4 l5 I
theorem AfM_box_L165 {dp : Nat} {P : am_Q} {nx : Nat} {sl : Nat} {e165_203 : Nat → Int32 → am_M → Option (Int32 × am_M)} (he165_203 : ∀ (l0 : Nat) (l4 : Int32) (I : am_M) (o1 : Option am_V) (o2 : Option am_V) (o3 : Option am_V) (o5 : Option am_V), sm (dp + 3) am_d145 203 [some (.inr l0), o1, o2, o3, some (.inl l4), o5] [] (I, P, nx, sl) (sm_g1 P nx sl) (e165_203 l0 l4 I)) (n : Nat) : ∀ (l0 : Nat) (l4 : Int32) (l5 : Int32) (I : am_M) (o1 : Option am_V) (o2 : Option am_V) (o3 : Option am_V), sm (dp + 3) am_d145 165 [some (.inr l0), o1, o2, o3, some (.inl l4), some (.inl l5)] [] (I, P, nx, sl) (sm_g1 P nx sl) (fM_box_L165 P e165_203 n l0 l4 l5 I) := by
  induction n with
  | zero => intro l0 l4 l5 I o1 o2 o3; exact sm_none
  | succ n ih => intro l0 l4 l5 I o1 o2 o3; exact AfM_box_B165 he165_203 ih l0 l4 l5 I o1 o2 o3
noncomputable def fM_box (P : am_Q) (l0 : Nat) (l1 : Int32) (l2 : Int32) (l3 : Int32) (I : am_M) : Option (Int32 × am_M) :=
  Option.bind (fM_within l1 0 5) fun y1 =>
  if y1 = 0 then
    (sm_ck (am_t l0 = 13) <|
    Option.bind (fM_finds P l0 ((-1000001)) I) fun y4 =>
    some (y4.1, y4.2))
  else
    (sm_ck (am_t l0 = 13) <|
    Option.bind (fM_arePair I P l0 l2) fun y6 =>
    if y6 = 0 then
      (Option.bind (fM_finds P l0 ((-1000001)) I) fun y8 =>
      some (y8.1, y8.2))
    else
      (Option.bind (fM_isPart I P l0 l3) fun y9 =>
      if ¬ y9 = 0 then
        (sm_ck (sm_in (P l0 1) 0) <|
        if ¬ (I (P l0 1) (0 : Int32).toNatClampNeg) = 7 then
          (sm_ck (sm_in (P l0 1) 0) <|
          sm_bd (I (P l0 1) (0 : Int32).toNatClampNeg) fun x14 =>
          sm_ck (sm_iw (P l0 2) x14) <|
          sm_bd (am_up I (P l0 2) x14.toNatClampNeg l1) fun I16 =>
          sm_ck (sm_iw (P l0 3) x14) <|
          sm_bd (am_up I16 (P l0 3) x14.toNatClampNeg (l2 / 100)) fun I18 =>
          sm_ck (sm_iw (P l0 4) x14) <|
          sm_bd (am_up I18 (P l0 4) x14.toNatClampNeg (sm_rem l2 100)) fun I20 =>
          sm_ck (sm_iw (P l0 5) x14) <|
          sm_bd (am_up I20 (P l0 5) x14.toNatClampNeg l3) fun I22 =>
          sm_ck (sm_iw (P l0 6) x14) <|
          sm_bd (am_up I22 (P l0 6) x14.toNatClampNeg 1) fun I24 =>
          sm_ck (sm_iw (P l0 7) x14) <|
          sm_bd (am_up I24 (P l0 7) x14.toNatClampNeg x14) fun I26 =>
          sm_ck (sm_iw (P l0 8) x14) <|
          sm_bd (am_up I26 (P l0 8) x14.toNatClampNeg 0) fun I28 =>
          fM_box_L124 P (fun l0 l4 I =>
              fM_box_L165 P (fun l0 l4 I =>
                  sm_ck (am_t l0 = 13) <|
                  sm_ck (sm_in (P l0 1) 0) <|
                  sm_ck (sm_iw (P l0 1) 0) <|
                  sm_bd (am_up I (P l0 1) (0 : Int32).toNatClampNeg ((I (P l0 1) (0 : Int32).toNatClampNeg) + 1)) fun I46 =>
                  some (l4, I46)) sm_fu l0 l4 0 I) sm_fu l0 x14 0 I28)
        else
          (Option.bind (fM_finds P l0 ((-1000002)) I) fun y47 =>
          some (y47.1, y47.2)))
      else
        (Option.bind (fM_finds P l0 ((-1000001)) I) fun y48 =>
        some (y48.1, y48.2))))
set_option maxRecDepth 100000 in
theorem AfM_box {dp : Nat} {P : am_Q} {nx : Nat} {sl : Nat} {I : am_M} {l0 : Nat} {l1 : Int32} {l2 : Int32} {l3 : Int32} {y : Int32 × am_M} (hy : fM_box P l0 l1 l2 l3 I = some y) : sm_T (dp + 4) 145 [.inr l0, .inl l1, .inl l2, .inl l3] (I, P, nx, sl) ((sm_g1 P nx sl) y) := by
  refine r_meth (d := am_d145) (dp := dp + 3) (ls0 := [some (.inr l0), some (.inl l1), some (.inl l2), some (.inl l3), none, none]) rfl (by decide) rfl rfl ?_ hy
  unfold fM_box
  refine r_iload rfl rfl ?_
  refine r_const (x := 0) rfl rfl ?_
  refine r_const (x := 5) rfl rfl ?_
  refine r_call0 rfl rfl trivial (fun y hy => AfM_within (dp := dp + 2) hy) (fun y1 => ?_)
  refine r_if rfl rfl (fun c2 => ?_) (fun c2 => ?_)
  · refine r_ck (fun h3 => ?_)
    refine r_aload rfl rfl (am_nz h3) ?_
    refine r_const (x := (-1000001)) rfl rfl ?_
    refine r_call1 rfl rfl h3 (fun y hy => AfM_finds (dp := dp + 2) hy) (fun y4 => ?_)
    exact r_ireturn rfl (Or.inl rfl) rfl
  · refine r_ck (fun h5 => ?_)
    refine r_aload rfl rfl (am_nz h5) ?_
    refine r_iload rfl rfl ?_
    refine r_call0 rfl rfl h5 (fun y hy => AfM_arePair (dp := dp + 0) hy) (fun y6 => ?_)
    refine r_if rfl rfl (fun c7 => ?_) (fun c7 => ?_)
    · refine r_aload rfl rfl (am_nz h5) ?_
      refine r_const (x := (-1000001)) rfl rfl ?_
      refine r_call1 rfl rfl h5 (fun y hy => AfM_finds (dp := dp + 2) hy) (fun y8 => ?_)
      exact r_ireturn rfl (Or.inl rfl) rfl
    · refine r_aload rfl rfl (am_nz h5) ?_
      refine r_iload rfl rfl ?_
      refine r_call0 rfl rfl h5 (fun y hy => AfM_isPart (dp := dp + 1) hy) (fun y9 => ?_)
      refine r_if rfl rfl (fun c10 => ?_) (fun c10 => ?_)
      · refine r_aload rfl rfl (am_nz h5) ?_
        refine r_getP rfl h5 ?_
        refine r_const (x := 0) rfl rfl ?_
        refine r_ck (fun h11 => ?_)
        refine r_iald rfl h11 ?_
        refine r_const (x := 7) rfl rfl ?_
        refine r_icmp rfl rfl (fun c12 => ?_) (fun c12 => ?_)
        · refine r_aload rfl rfl (am_nz h5) ?_
          refine r_getP rfl h5 ?_
          refine r_const (x := 0) rfl rfl ?_
          refine r_ck (fun h13 => ?_)
          refine r_iald rfl h13 ?_
          refine r_bd (fun x14 => ?_)
          refine r_istore (ls' := [some (.inr l0), some (.inl l1), some (.inl l2), some (.inl l3), some (.inl x14), none]) rfl (Nat.le_of_ble_eq_true rfl) rfl ?_
          refine r_aload rfl rfl (am_nz h5) ?_
          refine r_getP rfl h5 ?_
          refine r_iload rfl rfl ?_
          refine r_iload rfl rfl ?_
          refine r_ck (fun h15 => ?_)
          refine r_iast rfl h15 (fun I16 => ?_)
          refine r_aload rfl rfl (am_nz h5) ?_
          refine r_getP rfl h5 ?_
          refine r_iload rfl rfl ?_
          refine r_iload rfl rfl ?_
          refine r_const (x := 100) rfl rfl ?_
          refine r_bin (z := l2 / 100) rfl (sm_dv (by decide)) (by decide) ?_
          refine r_ck (fun h17 => ?_)
          refine r_iast rfl h17 (fun I18 => ?_)
          refine r_aload rfl rfl (am_nz h5) ?_
          refine r_getP rfl h5 ?_
          refine r_iload rfl rfl ?_
          refine r_iload rfl rfl ?_
          refine r_const (x := 100) rfl rfl ?_
          refine r_bin (z := sm_rem l2 100) rfl (sm_rv (by decide)) (by decide) ?_
          refine r_ck (fun h19 => ?_)
          refine r_iast rfl h19 (fun I20 => ?_)
          refine r_aload rfl rfl (am_nz h5) ?_
          refine r_getP rfl h5 ?_
          refine r_iload rfl rfl ?_
          refine r_iload rfl rfl ?_
          refine r_ck (fun h21 => ?_)
          refine r_iast rfl h21 (fun I22 => ?_)
          refine r_aload rfl rfl (am_nz h5) ?_
          refine r_getP rfl h5 ?_
          refine r_iload rfl rfl ?_
          refine r_const (x := 1) rfl rfl ?_
          refine r_ck (fun h23 => ?_)
          refine r_iast rfl h23 (fun I24 => ?_)
          refine r_aload rfl rfl (am_nz h5) ?_
          refine r_getP rfl h5 ?_
          refine r_iload rfl rfl ?_
          refine r_iload rfl rfl ?_
          refine r_ck (fun h25 => ?_)
          refine r_iast rfl h25 (fun I26 => ?_)
          refine r_aload rfl rfl (am_nz h5) ?_
          refine r_getP rfl h5 ?_
          refine r_iload rfl rfl ?_
          refine r_const (x := 0) rfl rfl ?_
          refine r_ck (fun h27 => ?_)
          refine r_iast rfl h27 (fun I28 => ?_)
          refine r_const (x := 0) rfl rfl ?_
          refine r_istore (ls' := [some (.inr l0), some (.inl l1), some (.inl l2), some (.inl l3), some (.inl x14), some (.inl 0)]) rfl (Nat.le_of_ble_eq_true rfl) rfl ?_
          refine AfM_box_L124 ?_ sm_fu l0 x14 0 I28 (some (.inl l1)) (some (.inl l2)) (some (.inl l3))
          · intro l0 l4 I o1 o2 o3 o5
            refine r_const (x := 0) rfl rfl ?_
            refine r_istore (ls' := [some (.inr l0), o1, o2, o3, some (.inl l4), some (.inl 0)]) rfl (Nat.le_of_ble_eq_true rfl) rfl ?_
            refine AfM_box_L165 ?_ sm_fu l0 l4 0 I o1 o2 o3
            · intro l0 l4 I o1 o2 o3 o5
              refine r_ck (fun h43 => ?_)
              refine r_aload rfl rfl (am_nz h43) ?_
              refine r_getP rfl h43 ?_
              refine r_const (x := 0) rfl rfl ?_
              refine r_dup2 rfl ?_
              refine r_ck (fun h44 => ?_)
              refine r_iald rfl h44 ?_
              refine r_const (x := 1) rfl rfl ?_
              refine r_bin (z := (I (P l0 1) (0 : Int32).toNatClampNeg) + 1) rfl rfl (by decide) ?_
              refine r_ck (fun h45 => ?_)
              refine r_iast rfl h45 (fun I46 => ?_)
              refine r_iload rfl rfl ?_
              exact r_ireturn rfl (Or.inl rfl) rfl
        · refine r_aload rfl rfl (am_nz h5) ?_
          refine r_const (x := (-1000002)) rfl rfl ?_
          refine r_call1 rfl rfl h5 (fun y hy => AfM_finds (dp := dp + 2) hy) (fun y47 => ?_)
          exact r_ireturn rfl (Or.inl rfl) rfl
      · refine r_aload rfl rfl (am_nz h5) ?_
        refine r_const (x := (-1000001)) rfl rfl ?_
        refine r_call1 rfl rfl h5 (fun y hy => AfM_finds (dp := dp + 2) hy) (fun y48 => ?_)
        exact r_ireturn rfl (Or.inl rfl) rfl
noncomputable def fM_isOf (I : am_M) (P : am_Q) (l0 : Nat) (l1 : Int32) (l2 : Int32) : Option (Int32) :=
  sm_ck (am_t l0 = 13) <|
  sm_ck (sm_in (P l0 1) l1) <|
  Option.bind (fM_within l2 0 ((I (P l0 1) l1.toNatClampNeg) - 1)) fun y3 =>
  sm_ck (sm_01 y3) <|
  some y3
set_option maxRecDepth 100000 in
theorem AfM_isOf {dp : Nat} {I : am_M} {P : am_Q} {nx : Nat} {sl : Nat} {l0 : Nat} {l1 : Int32} {l2 : Int32} {y : Int32} (hy : fM_isOf I P l0 l1 l2 = some y) : sm_T (dp + 2) 149 [.inr l0, .inl l1, .inl l2] (I, P, nx, sl) ((sm_g0 (I, P, nx, sl)) y) := by
  refine r_meth (d := am_d149) (dp := dp + 1) (ls0 := [some (.inr l0), some (.inl l1), some (.inl l2)]) rfl (by decide) rfl rfl ?_ hy
  unfold fM_isOf
  refine r_iload rfl rfl ?_
  refine r_const (x := 0) rfl rfl ?_
  refine r_ck (fun h1 => ?_)
  refine r_aload rfl rfl (am_nz h1) ?_
  refine r_getP rfl h1 ?_
  refine r_iload rfl rfl ?_
  refine r_ck (fun h2 => ?_)
  refine r_iald rfl h2 ?_
  refine r_const (x := 1) rfl rfl ?_
  refine r_bin (z := (I (P l0 1) l1.toNatClampNeg) - 1) rfl rfl (by decide) ?_
  refine r_call0 rfl rfl trivial (fun y hy => AfM_within (dp := dp + 0) hy) (fun y3 => ?_)
  refine r_ck (fun h4 => ?_)
  exact r_ireturn rfl (Or.inr ⟨rfl, h4⟩) rfl
noncomputable def fM_as_J74 (P : am_Q) (l0 : Nat) (l1 : Int32) (s0 : Int32) (I : am_M) : Option (Int32 × am_M) :=
  if s0 = 0 then
    (sm_ck (am_t l0 = 13) <|
    Option.bind (fM_finds P l0 ((-1000003)) I) fun y10 =>
    some (y10.1, y10.2))
  else
    (some (l1, I))
set_option maxRecDepth 100000 in
theorem AfM_as_J74 {dp : Nat} {P : am_Q} {nx : Nat} {sl : Nat} (l0 : Nat) (l1 : Int32) (s0 : Int32) (I : am_M) (o2 : Option am_V) (o3 : Option am_V) : sm (dp + 2) am_d148 74 [some (.inr l0), some (.inl l1), o2, o3] [.inl s0] (I, P, nx, sl) (sm_g1 P nx sl) (fM_as_J74 P l0 l1 s0 I) := by
  unfold fM_as_J74
  refine r_istore (ls' := [some (.inr l0), some (.inl l1), o2, some (.inl s0)]) rfl (Nat.le_of_ble_eq_true rfl) rfl ?_
  refine r_iload rfl rfl ?_
  refine r_if rfl rfl (fun c8 => ?_) (fun c8 => ?_)
  · refine r_ck (fun h9 => ?_)
    refine r_aload rfl rfl (am_nz h9) ?_
    refine r_const (x := (-1000003)) rfl rfl ?_
    refine r_call1 rfl rfl h9 (fun y hy => AfM_finds (dp := dp + 1) hy) (fun y10 => ?_)
    exact r_ireturn rfl (Or.inl rfl) rfl
  · refine r_iload rfl rfl ?_
    refine r_goto rfl ?_
    exact r_ireturn rfl (Or.inl rfl) rfl
noncomputable def fM_as_J69 (P : am_Q) (l0 : Nat) (l1 : Int32) (I : am_M) : Option (Int32 × am_M) :=
  fM_as_J74 P l0 l1 1 I
set_option maxRecDepth 100000 in
theorem AfM_as_J69 {dp : Nat} {P : am_Q} {nx : Nat} {sl : Nat} (l0 : Nat) (l1 : Int32) (I : am_M) (o2 : Option am_V) (o3 : Option am_V) : sm (dp + 2) am_d148 69 [some (.inr l0), some (.inl l1), o2, o3] [] (I, P, nx, sl) (sm_g1 P nx sl) (fM_as_J69 P l0 l1 I) := by
  unfold fM_as_J69
  refine r_const (x := 1) rfl rfl ?_
  refine r_goto rfl ?_
  exact AfM_as_J74 l0 l1 1 I o2 o3
noncomputable def fM_as_J73 (P : am_Q) (l0 : Nat) (l1 : Int32) (I : am_M) : Option (Int32 × am_M) :=
  fM_as_J74 P l0 l1 0 I
set_option maxRecDepth 100000 in
theorem AfM_as_J73 {dp : Nat} {P : am_Q} {nx : Nat} {sl : Nat} (l0 : Nat) (l1 : Int32) (I : am_M) (o2 : Option am_V) (o3 : Option am_V) : sm (dp + 2) am_d148 73 [some (.inr l0), some (.inl l1), o2, o3] [] (I, P, nx, sl) (sm_g1 P nx sl) (fM_as_J73 P l0 l1 I) := by
  unfold fM_as_J73
  refine r_const (x := 0) rfl rfl ?_
  exact AfM_as_J74 l0 l1 0 I o2 o3
noncomputable def fM_as_J54 (P : am_Q) (l0 : Nat) (l1 : Int32) (l2 : Int32) (I : am_M) : Option (Int32 × am_M) :=
  if ¬ l2 = 3 then
    (fM_as_J73 P l0 l1 I)
  else
    (sm_ck (am_t l0 = 13) <|
    sm_ck (sm_in (P l0 2) l1) <|
    if ¬ (I (P l0 2) l1.toNatClampNeg) = 5 then
      (fM_as_J73 P l0 l1 I)
    else
      (fM_as_J69 P l0 l1 I))
set_option maxRecDepth 100000 in
theorem AfM_as_J54 {dp : Nat} {P : am_Q} {nx : Nat} {sl : Nat} (l0 : Nat) (l1 : Int32) (l2 : Int32) (I : am_M) (o3 : Option am_V) : sm (dp + 2) am_d148 54 [some (.inr l0), some (.inl l1), some (.inl l2), o3] [] (I, P, nx, sl) (sm_g1 P nx sl) (fM_as_J54 P l0 l1 l2 I) := by
  unfold fM_as_J54
  refine r_iload rfl rfl ?_
  refine r_const (x := 3) rfl rfl ?_
  refine r_icmp rfl rfl (fun c14 => ?_) (fun c14 => ?_)
  · exact AfM_as_J73 l0 l1 I (some (.inl l2)) o3
  · refine r_ck (fun h15 => ?_)
    refine r_aload rfl rfl (am_nz h15) ?_
    refine r_getP rfl h15 ?_
    refine r_iload rfl rfl ?_
    refine r_ck (fun h16 => ?_)
    refine r_iald rfl h16 ?_
    refine r_const (x := 5) rfl rfl ?_
    refine r_icmp rfl rfl (fun c17 => ?_) (fun c17 => ?_)
    · exact AfM_as_J73 l0 l1 I (some (.inl l2)) o3
    · exact AfM_as_J69 l0 l1 I (some (.inl l2)) o3
noncomputable def fM_as (P : am_Q) (l0 : Nat) (l1 : Int32) (l2 : Int32) (I : am_M) : Option (Int32 × am_M) :=
  sm_ck (am_t l0 = 13) <|
  Option.bind (fM_isOf I P l0 0 l1) fun y2 =>
  if y2 = 0 then
    (Option.bind (fM_finds P l0 ((-1000001)) I) fun y4 =>
    some (y4.1, y4.2))
  else
    (Option.bind (fM_within l2 0 5) fun y5 =>
    if ¬ y5 = 0 then
      (if l2 = 0 then
        (fM_as_J69 P l0 l1 I)
      else
        (sm_ck (sm_in (P l0 2) l1) <|
        if (I (P l0 2) l1.toNatClampNeg) = l2 then
          (fM_as_J69 P l0 l1 I)
        else
          (if ¬ l2 = 1 then
            (fM_as_J54 P l0 l1 l2 I)
          else
            (sm_ck (sm_in (P l0 2) l1) <|
            if (I (P l0 2) l1.toNatClampNeg) = 2 then
              (fM_as_J69 P l0 l1 I)
            else
              (fM_as_J54 P l0 l1 l2 I)))))
    else
      (Option.bind (fM_finds P l0 ((-1000001)) I) fun y20 =>
      some (y20.1, y20.2)))
set_option maxRecDepth 100000 in
theorem AfM_as {dp : Nat} {P : am_Q} {nx : Nat} {sl : Nat} {I : am_M} {l0 : Nat} {l1 : Int32} {l2 : Int32} {y : Int32 × am_M} (hy : fM_as P l0 l1 l2 I = some y) : sm_T (dp + 3) 148 [.inr l0, .inl l1, .inl l2] (I, P, nx, sl) ((sm_g1 P nx sl) y) := by
  refine r_meth (d := am_d148) (dp := dp + 2) (ls0 := [some (.inr l0), some (.inl l1), some (.inl l2), none]) rfl (by decide) rfl rfl ?_ hy
  unfold fM_as
  refine r_ck (fun h1 => ?_)
  refine r_aload rfl rfl (am_nz h1) ?_
  refine r_const (x := 0) rfl rfl ?_
  refine r_iload rfl rfl ?_
  refine r_call0 rfl rfl h1 (fun y hy => AfM_isOf (dp := dp + 0) hy) (fun y2 => ?_)
  refine r_if rfl rfl (fun c3 => ?_) (fun c3 => ?_)
  · refine r_aload rfl rfl (am_nz h1) ?_
    refine r_const (x := (-1000001)) rfl rfl ?_
    refine r_call1 rfl rfl h1 (fun y hy => AfM_finds (dp := dp + 1) hy) (fun y4 => ?_)
    exact r_ireturn rfl (Or.inl rfl) rfl
  · refine r_iload rfl rfl ?_
    refine r_const (x := 0) rfl rfl ?_
    refine r_const (x := 5) rfl rfl ?_
    refine r_call0 rfl rfl trivial (fun y hy => AfM_within (dp := dp + 1) hy) (fun y5 => ?_)
    refine r_if rfl rfl (fun c6 => ?_) (fun c6 => ?_)
    · refine r_iload rfl rfl ?_
      refine r_if rfl rfl (fun c7 => ?_) (fun c7 => ?_)
      · exact AfM_as_J69 l0 l1 I (some (.inl l2)) none
      · refine r_aload rfl rfl (am_nz h1) ?_
        refine r_getP rfl h1 ?_
        refine r_iload rfl rfl ?_
        refine r_ck (fun h11 => ?_)
        refine r_iald rfl h11 ?_
        refine r_iload rfl rfl ?_
        refine r_icmp rfl rfl (fun c12 => ?_) (fun c12 => ?_)
        · exact AfM_as_J69 l0 l1 I (some (.inl l2)) none
        · refine r_iload rfl rfl ?_
          refine r_const (x := 1) rfl rfl ?_
          refine r_icmp rfl rfl (fun c13 => ?_) (fun c13 => ?_)
          · exact AfM_as_J54 l0 l1 l2 I none
          · refine r_aload rfl rfl (am_nz h1) ?_
            refine r_getP rfl h1 ?_
            refine r_iload rfl rfl ?_
            refine r_ck (fun h18 => ?_)
            refine r_iald rfl h18 ?_
            refine r_const (x := 2) rfl rfl ?_
            refine r_icmp rfl rfl (fun c19 => ?_) (fun c19 => ?_)
            · exact AfM_as_J69 l0 l1 I (some (.inl l2)) none
            · exact AfM_as_J54 l0 l1 l2 I none
    · refine r_aload rfl rfl (am_nz h1) ?_
      refine r_const (x := (-1000001)) rfl rfl ?_
      refine r_call1 rfl rfl h1 (fun y hy => AfM_finds (dp := dp + 1) hy) (fun y20 => ?_)
      exact r_ireturn rfl (Or.inl rfl) rfl
noncomputable def fM_part (I : am_M) (P : am_Q) (l0 : Nat) (l1 : Int32) : Option (Int32) :=
  sm_ck (am_t l0 = 13) <|
  sm_ck (sm_in (P l0 1) 5) <|
  sm_ck (¬ (I (P l0 1) (5 : Int32).toNatClampNeg) = 0) <|
  sm_bd (sm_rem l1 (I (P l0 1) (5 : Int32).toNatClampNeg)) fun x4 =>
  if 0 ≤ x4 then
    (some x4)
  else
    (sm_ck (sm_in (P l0 1) 5) <|
    some (x4 + (I (P l0 1) (5 : Int32).toNatClampNeg)))
set_option maxRecDepth 100000 in
theorem AfM_part {dp : Nat} {I : am_M} {P : am_Q} {nx : Nat} {sl : Nat} {l0 : Nat} {l1 : Int32} {y : Int32} (hy : fM_part I P l0 l1 = some y) : sm_T (dp + 1) 153 [.inr l0, .inl l1] (I, P, nx, sl) ((sm_g0 (I, P, nx, sl)) y) := by
  refine r_meth (d := am_d153) (dp := dp + 0) (ls0 := [some (.inr l0), some (.inl l1), none]) rfl (by decide) rfl rfl ?_ hy
  unfold fM_part
  refine r_iload rfl rfl ?_
  refine r_ck (fun h1 => ?_)
  refine r_aload rfl rfl (am_nz h1) ?_
  refine r_getP rfl h1 ?_
  refine r_const (x := 5) rfl rfl ?_
  refine r_ck (fun h2 => ?_)
  refine r_iald rfl h2 ?_
  refine r_ck (fun h3 => ?_)
  refine r_bin (z := sm_rem l1 (I (P l0 1) (5 : Int32).toNatClampNeg)) rfl (sm_rv h3) (by decide) ?_
  refine r_bd (fun x4 => ?_)
  refine r_istore (ls' := [some (.inr l0), some (.inl l1), some (.inl x4)]) rfl (Nat.le_of_ble_eq_true rfl) rfl ?_
  refine r_iload rfl rfl ?_
  refine r_if rfl rfl (fun c5 => ?_) (fun c5 => ?_)
  · refine r_iload rfl rfl ?_
    exact r_ireturn rfl (Or.inl rfl) rfl
  · refine r_iload rfl rfl ?_
    refine r_aload rfl rfl (am_nz h1) ?_
    refine r_getP rfl h1 ?_
    refine r_const (x := 5) rfl rfl ?_
    refine r_ck (fun h6 => ?_)
    refine r_iald rfl h6 ?_
    refine r_bin (z := x4 + (I (P l0 1) (5 : Int32).toNatClampNeg)) rfl rfl (by decide) ?_
    refine r_goto rfl ?_
    exact r_ireturn rfl (Or.inl rfl) rfl
noncomputable def fM_worth_J285 (P : am_Q) (r55 : Nat → Int32 → Int32 → Int32 → Int32 → Int32 → Int32 → Int32 → Int32 → Int32 → am_M → Option (Int32 × am_M)) (l0 : Nat) (l1 : Int32) (l3 : Int32) (l4 : Int32) (l5 : Int32) (l6 : Int32) (l7 : Int32) (l8 : Int32) (l9 : Int32) (l10 : Int32) (I : am_M) : Option (Int32 × am_M) :=
  sm_bd (l10 + 1) fun x29 =>
  r55 l0 l1 l3 l4 l5 l6 l7 l8 l9 x29 I
set_option maxRecDepth 100000 in
theorem AfM_worth_J285 {dp : Nat} {P : am_Q} {nx : Nat} {sl : Nat} {r55 : Nat → Int32 → Int32 → Int32 → Int32 → Int32 → Int32 → Int32 → Int32 → Int32 → am_M → Option (Int32 × am_M)} (hr55 : ∀ (l0 : Nat) (l1 : Int32) (l3 : Int32) (l4 : Int32) (l5 : Int32) (l6 : Int32) (l7 : Int32) (l8 : Int32) (l9 : Int32) (l10 : Int32) (I : am_M) (o2 : Option am_V) (o11 : Option am_V) (o12 : Option am_V) (o13 : Option am_V), sm (dp + 1) am_d152 55 [some (.inr l0), some (.inl l1), o2, some (.inl l3), some (.inl l4), some (.inl l5), some (.inl l6), some (.inl l7), some (.inl l8), some (.inl l9), some (.inl l10), o11, o12, o13] [] (I, P, nx, sl) (sm_g1 P nx sl) (r55 l0 l1 l3 l4 l5 l6 l7 l8 l9 l10 I)) (l0 : Nat) (l1 : Int32) (l3 : Int32) (l4 : Int32) (l5 : Int32) (l6 : Int32) (l7 : Int32) (l8 : Int32) (l9 : Int32) (l10 : Int32) (I : am_M) (o2 : Option am_V) (o11 : Option am_V) (o12 : Option am_V) (o13 : Option am_V) : sm (dp + 1) am_d152 285 [some (.inr l0), some (.inl l1), o2, some (.inl l3), some (.inl l4), some (.inl l5), some (.inl l6), some (.inl l7), some (.inl l8), some (.inl l9), some (.inl l10), o11, o12, o13] [] (I, P, nx, sl) (sm_g1 P nx sl) (fM_worth_J285 P r55 l0 l1 l3 l4 l5 l6 l7 l8 l9 l10 I) := by
  unfold fM_worth_J285
  refine r_iinc (e := l10 + 1) (ls' := fun x29 => [some (.inr l0), some (.inl l1), o2, some (.inl l3), some (.inl l4), some (.inl l5), some (.inl l6), some (.inl l7), some (.inl l8), some (.inl l9), some (.inl x29), o11, o12, o13]) rfl rfl rfl (fun _ => rfl) (fun x29 => ?_)
  refine r_goto rfl ?_
  exact hr55 l0 l1 l3 l4 l5 l6 l7 l8 l9 x29 I o2 o11 o12 o13
noncomputable def fM_worth_J284 (P : am_Q) (r55 : Nat → Int32 → Int32 → Int32 → Int32 → Int32 → Int32 → Int32 → Int32 → Int32 → am_M → Option (Int32 × am_M)) (l0 : Nat) (l1 : Int32) (l3 : Int32) (l4 : Int32) (l5 : Int32) (l6 : Int32) (l7 : Int32) (l8 : Int32) (l9 : Int32) (l10 : Int32) (s0 : Int32) (s1 : Int32) (s2 : Nat) (I : am_M) : Option (Int32 × am_M) :=
  sm_ck (sm_iw s2 s1) <|
  sm_bd (am_up I s2 s1.toNatClampNeg s0) fun I28 =>
  fM_worth_J285 P r55 l0 l1 l3 l4 l5 l6 l7 l8 l9 l10 I28
set_option maxRecDepth 100000 in
theorem AfM_worth_J284 {dp : Nat} {P : am_Q} {nx : Nat} {sl : Nat} {r55 : Nat → Int32 → Int32 → Int32 → Int32 → Int32 → Int32 → Int32 → Int32 → Int32 → am_M → Option (Int32 × am_M)} (hr55 : ∀ (l0 : Nat) (l1 : Int32) (l3 : Int32) (l4 : Int32) (l5 : Int32) (l6 : Int32) (l7 : Int32) (l8 : Int32) (l9 : Int32) (l10 : Int32) (I : am_M) (o2 : Option am_V) (o11 : Option am_V) (o12 : Option am_V) (o13 : Option am_V), sm (dp + 1) am_d152 55 [some (.inr l0), some (.inl l1), o2, some (.inl l3), some (.inl l4), some (.inl l5), some (.inl l6), some (.inl l7), some (.inl l8), some (.inl l9), some (.inl l10), o11, o12, o13] [] (I, P, nx, sl) (sm_g1 P nx sl) (r55 l0 l1 l3 l4 l5 l6 l7 l8 l9 l10 I)) (l0 : Nat) (l1 : Int32) (l3 : Int32) (l4 : Int32) (l5 : Int32) (l6 : Int32) (l7 : Int32) (l8 : Int32) (l9 : Int32) (l10 : Int32) (s0 : Int32) (s1 : Int32) (s2 : Nat) (I : am_M) (o2 : Option am_V) (o11 : Option am_V) (o12 : Option am_V) (o13 : Option am_V) : sm (dp + 1) am_d152 284 [some (.inr l0), some (.inl l1), o2, some (.inl l3), some (.inl l4), some (.inl l5), some (.inl l6), some (.inl l7), some (.inl l8), some (.inl l9), some (.inl l10), o11, o12, o13] [.inl s0, .inl s1, .inr s2] (I, P, nx, sl) (sm_g1 P nx sl) (fM_worth_J284 P r55 l0 l1 l3 l4 l5 l6 l7 l8 l9 l10 s0 s1 s2 I) := by
  unfold fM_worth_J284
  refine r_ck (fun h27 => ?_)
  refine r_iast rfl h27 (fun I28 => ?_)
  exact AfM_worth_J285 hr55 l0 l1 l3 l4 l5 l6 l7 l8 l9 l10 I28 o2 o11 o12 o13
noncomputable def fM_worth_J175 (P : am_Q) (r55 : Nat → Int32 → Int32 → Int32 → Int32 → Int32 → Int32 → Int32 → Int32 → Int32 → am_M → Option (Int32 × am_M)) (l0 : Nat) (l1 : Int32) (l3 : Int32) (l4 : Int32) (l5 : Int32) (l6 : Int32) (l7 : Int32) (l8 : Int32) (l9 : Int32) (l10 : Int32) (s0 : Int32) (s1 : Int32) (s2 : Nat) (I : am_M) : Option (Int32 × am_M) :=
  sm_ck (sm_iw s2 s1) <|
  sm_bd (am_up I s2 s1.toNatClampNeg s0) fun I39 =>
  sm_bd (l9 + 1) fun x40 =>
  fM_worth_J285 P r55 l0 l1 l3 l4 l5 l6 l7 l8 x40 l10 I39
set_option maxRecDepth 100000 in
theorem AfM_worth_J175 {dp : Nat} {P : am_Q} {nx : Nat} {sl : Nat} {r55 : Nat → Int32 → Int32 → Int32 → Int32 → Int32 → Int32 → Int32 → Int32 → Int32 → am_M → Option (Int32 × am_M)} (hr55 : ∀ (l0 : Nat) (l1 : Int32) (l3 : Int32) (l4 : Int32) (l5 : Int32) (l6 : Int32) (l7 : Int32) (l8 : Int32) (l9 : Int32) (l10 : Int32) (I : am_M) (o2 : Option am_V) (o11 : Option am_V) (o12 : Option am_V) (o13 : Option am_V), sm (dp + 1) am_d152 55 [some (.inr l0), some (.inl l1), o2, some (.inl l3), some (.inl l4), some (.inl l5), some (.inl l6), some (.inl l7), some (.inl l8), some (.inl l9), some (.inl l10), o11, o12, o13] [] (I, P, nx, sl) (sm_g1 P nx sl) (r55 l0 l1 l3 l4 l5 l6 l7 l8 l9 l10 I)) (l0 : Nat) (l1 : Int32) (l3 : Int32) (l4 : Int32) (l5 : Int32) (l6 : Int32) (l7 : Int32) (l8 : Int32) (l9 : Int32) (l10 : Int32) (s0 : Int32) (s1 : Int32) (s2 : Nat) (I : am_M) (o2 : Option am_V) (o11 : Option am_V) (o12 : Option am_V) (o13 : Option am_V) : sm (dp + 1) am_d152 175 [some (.inr l0), some (.inl l1), o2, some (.inl l3), some (.inl l4), some (.inl l5), some (.inl l6), some (.inl l7), some (.inl l8), some (.inl l9), some (.inl l10), o11, o12, o13] [.inl s0, .inl s1, .inr s2] (I, P, nx, sl) (sm_g1 P nx sl) (fM_worth_J175 P r55 l0 l1 l3 l4 l5 l6 l7 l8 l9 l10 s0 s1 s2 I) := by
  unfold fM_worth_J175
  refine r_ck (fun h38 => ?_)
  refine r_iast rfl h38 (fun I39 => ?_)
  refine r_iinc (e := l9 + 1) (ls' := fun x40 => [some (.inr l0), some (.inl l1), o2, some (.inl l3), some (.inl l4), some (.inl l5), some (.inl l6), some (.inl l7), some (.inl l8), some (.inl x40), some (.inl l10), o11, o12, o13]) rfl rfl rfl (fun _ => rfl) (fun x40 => ?_)
  refine r_goto rfl ?_
  exact AfM_worth_J285 hr55 l0 l1 l3 l4 l5 l6 l7 l8 x40 l10 I39 o2 o11 o12 o13
noncomputable def fM_worth_B55 (P : am_Q) (e55_291 : Nat → am_M → Option (Int32 × am_M)) (r55 : Nat → Int32 → Int32 → Int32 → Int32 → Int32 → Int32 → Int32 → Int32 → Int32 → am_M → Option (Int32 × am_M)) (l0 : Nat) (l1 : Int32) (l3 : Int32) (l4 : Int32) (l5 : Int32) (l6 : Int32) (l7 : Int32) (l8 : Int32) (l9 : Int32) (l10 : Int32) (I : am_M) : Option (Int32 × am_M) :=
  sm_ck (am_t l0 = 13) <|
  sm_ck (sm_in (P l0 12) l8) <|
  if ((80 * l1) + (I (P l0 12) l8.toNatClampNeg)) ≤ l10 then
    (e55_291 l0 I)
  else
    (sm_ck (sm_in (P l0 14) l10) <|
    sm_bd (I (P l0 14) l10.toNatClampNeg) fun x12 =>
    sm_ck (sm_in (P l0 13) l10) <|
    if ¬ (I (P l0 13) l10.toNatClampNeg) = 0 then
      (sm_ck (sm_in (P l0 13) l10) <|
      if ¬ (I (P l0 13) l10.toNatClampNeg) = 1 then
        (sm_bd (l9 + (-1)) fun x17 =>
        sm_ck (sm_in (P l0 30) (x17 - 1)) <|
        sm_bd (I (P l0 30) (x17 - 1).toNatClampNeg) fun x19 =>
        sm_ck (sm_in (P l0 30) x17) <|
        sm_bd (I (P l0 30) x17.toNatClampNeg) fun x21 =>
        if ¬ x12 = 43 then
          (if ¬ x12 = 45 then
            (if ¬ x12 = 42 then
              (if ¬ x21 = 0 then
                (sm_ck (¬ x21 = 0) <|
                fM_worth_J284 P r55 l0 l1 l3 l4 l5 l6 l7 l8 x17 l10 (sm_rem x19 x21) (x17 - 1) (P l0 30) I)
              else
                (fM_worth_J284 P r55 l0 l1 l3 l4 l5 l6 l7 l8 x17 l10 0 (x17 - 1) (P l0 30) I))
            else
              (Option.bind (fM_part I P l0 (x19 * x21)) fun y30 =>
              fM_worth_J284 P r55 l0 l1 l3 l4 l5 l6 l7 l8 x17 l10 y30 (x17 - 1) (P l0 30) I))
          else
            (Option.bind (fM_part I P l0 (x19 - x21)) fun y31 =>
            fM_worth_J284 P r55 l0 l1 l3 l4 l5 l6 l7 l8 x17 l10 y31 (x17 - 1) (P l0 30) I))
        else
          (Option.bind (fM_part I P l0 (x19 + x21)) fun y32 =>
          fM_worth_J284 P r55 l0 l1 l3 l4 l5 l6 l7 l8 x17 l10 y32 (x17 - 1) (P l0 30) I))
      else
        (if ¬ x12 = 0 then
          (if ¬ x12 = 1 then
            (if ¬ x12 = 2 then
              (if ¬ x12 = 3 then
                (Option.bind (fM_part I P l0 l3) fun y37 =>
                fM_worth_J175 P r55 l0 l1 l3 l4 l5 l6 l7 l8 l9 l10 y37 l9 (P l0 30) I)
              else
                (fM_worth_J175 P r55 l0 l1 l3 l4 l5 l6 l7 l8 l9 l10 l7 l9 (P l0 30) I))
            else
              (fM_worth_J175 P r55 l0 l1 l3 l4 l5 l6 l7 l8 l9 l10 l6 l9 (P l0 30) I))
          else
            (fM_worth_J175 P r55 l0 l1 l3 l4 l5 l6 l7 l8 l9 l10 l5 l9 (P l0 30) I))
        else
          (fM_worth_J175 P r55 l0 l1 l3 l4 l5 l6 l7 l8 l9 l10 l4 l9 (P l0 30) I)))
    else
      (Option.bind (fM_part I P l0 x12) fun y41 =>
      sm_ck (sm_iw (P l0 30) l9) <|
      sm_bd (am_up I (P l0 30) l9.toNatClampNeg y41) fun I43 =>
      sm_bd (l9 + 1) fun x44 =>
      fM_worth_J285 P r55 l0 l1 l3 l4 l5 l6 l7 l8 x44 l10 I43))
set_option maxRecDepth 100000 in
theorem AfM_worth_B55 {dp : Nat} {P : am_Q} {nx : Nat} {sl : Nat} {e55_291 : Nat → am_M → Option (Int32 × am_M)} {r55 : Nat → Int32 → Int32 → Int32 → Int32 → Int32 → Int32 → Int32 → Int32 → Int32 → am_M → Option (Int32 × am_M)} (he55_291 : ∀ (l0 : Nat) (I : am_M) (o1 : Option am_V) (o2 : Option am_V) (o3 : Option am_V) (o4 : Option am_V) (o5 : Option am_V) (o6 : Option am_V) (o7 : Option am_V) (o8 : Option am_V) (o9 : Option am_V) (o10 : Option am_V) (o11 : Option am_V) (o12 : Option am_V) (o13 : Option am_V), sm (dp + 1) am_d152 291 [some (.inr l0), o1, o2, o3, o4, o5, o6, o7, o8, o9, o10, o11, o12, o13] [] (I, P, nx, sl) (sm_g1 P nx sl) (e55_291 l0 I)) (hr55 : ∀ (l0 : Nat) (l1 : Int32) (l3 : Int32) (l4 : Int32) (l5 : Int32) (l6 : Int32) (l7 : Int32) (l8 : Int32) (l9 : Int32) (l10 : Int32) (I : am_M) (o2 : Option am_V) (o11 : Option am_V) (o12 : Option am_V) (o13 : Option am_V), sm (dp + 1) am_d152 55 [some (.inr l0), some (.inl l1), o2, some (.inl l3), some (.inl l4), some (.inl l5), some (.inl l6), some (.inl l7), some (.inl l8), some (.inl l9), some (.inl l10), o11, o12, o13] [] (I, P, nx, sl) (sm_g1 P nx sl) (r55 l0 l1 l3 l4 l5 l6 l7 l8 l9 l10 I)) (l0 : Nat) (l1 : Int32) (l3 : Int32) (l4 : Int32) (l5 : Int32) (l6 : Int32) (l7 : Int32) (l8 : Int32) (l9 : Int32) (l10 : Int32) (I : am_M) (o2 : Option am_V) (o11 : Option am_V) (o12 : Option am_V) (o13 : Option am_V) : sm (dp + 1) am_d152 55 [some (.inr l0), some (.inl l1), o2, some (.inl l3), some (.inl l4), some (.inl l5), some (.inl l6), some (.inl l7), some (.inl l8), some (.inl l9), some (.inl l10), o11, o12, o13] [] (I, P, nx, sl) (sm_g1 P nx sl) (fM_worth_B55 P e55_291 r55 l0 l1 l3 l4 l5 l6 l7 l8 l9 l10 I) := by
  unfold fM_worth_B55
  refine r_iload rfl rfl ?_
  refine r_const (x := 80) rfl rfl ?_
  refine r_iload rfl rfl ?_
  refine r_bin (z := 80 * l1) rfl rfl (by decide) ?_
  refine r_ck (fun h8 => ?_)
  refine r_aload rfl rfl (am_nz h8) ?_
  refine r_getP rfl h8 ?_
  refine r_iload rfl rfl ?_
  refine r_ck (fun h9 => ?_)
  refine r_iald rfl h9 ?_
  refine r_bin (z := (80 * l1) + (I (P l0 12) l8.toNatClampNeg)) rfl rfl (by decide) ?_
  refine r_icmp rfl rfl (fun c10 => ?_) (fun c10 => ?_)
  · exact he55_291 l0 I (some (.inl l1)) o2 (some (.inl l3)) (some (.inl l4)) (some (.inl l5)) (some (.inl l6)) (some (.inl l7)) (some (.inl l8)) (some (.inl l9)) (some (.inl l10)) o11 o12 o13
  · refine r_aload rfl rfl (am_nz h8) ?_
    refine r_getP rfl h8 ?_
    refine r_iload rfl rfl ?_
    refine r_ck (fun h11 => ?_)
    refine r_iald rfl h11 ?_
    refine r_bd (fun x12 => ?_)
    refine r_istore (ls' := [some (.inr l0), some (.inl l1), o2, some (.inl l3), some (.inl l4), some (.inl l5), some (.inl l6), some (.inl l7), some (.inl l8), some (.inl l9), some (.inl l10), some (.inl x12), o12, o13]) rfl (Nat.le_of_ble_eq_true rfl) rfl ?_
    refine r_aload rfl rfl (am_nz h8) ?_
    refine r_getP rfl h8 ?_
    refine r_iload rfl rfl ?_
    refine r_ck (fun h13 => ?_)
    refine r_iald rfl h13 ?_
    refine r_if rfl rfl (fun c14 => ?_) (fun c14 => ?_)
    · refine r_aload rfl rfl (am_nz h8) ?_
      refine r_getP rfl h8 ?_
      refine r_iload rfl rfl ?_
      refine r_ck (fun h15 => ?_)
      refine r_iald rfl h15 ?_
      refine r_const (x := 1) rfl rfl ?_
      refine r_icmp rfl rfl (fun c16 => ?_) (fun c16 => ?_)
      · refine r_iinc (e := l9 + (-1)) (ls' := fun x17 => [some (.inr l0), some (.inl l1), o2, some (.inl l3), some (.inl l4), some (.inl l5), some (.inl l6), some (.inl l7), some (.inl l8), some (.inl x17), some (.inl l10), some (.inl x12), o12, o13]) rfl rfl rfl (fun _ => rfl) (fun x17 => ?_)
        refine r_aload rfl rfl (am_nz h8) ?_
        refine r_getP rfl h8 ?_
        refine r_iload rfl rfl ?_
        refine r_const (x := 1) rfl rfl ?_
        refine r_bin (z := x17 - 1) rfl rfl (by decide) ?_
        refine r_ck (fun h18 => ?_)
        refine r_iald rfl h18 ?_
        refine r_bd (fun x19 => ?_)
        refine r_istore (ls' := [some (.inr l0), some (.inl l1), o2, some (.inl l3), some (.inl l4), some (.inl l5), some (.inl l6), some (.inl l7), some (.inl l8), some (.inl x17), some (.inl l10), some (.inl x12), some (.inl x19), o13]) rfl (Nat.le_of_ble_eq_true rfl) rfl ?_
        refine r_aload rfl rfl (am_nz h8) ?_
        refine r_getP rfl h8 ?_
        refine r_iload rfl rfl ?_
        refine r_ck (fun h20 => ?_)
        refine r_iald rfl h20 ?_
        refine r_bd (fun x21 => ?_)
        refine r_istore (ls' := [some (.inr l0), some (.inl l1), o2, some (.inl l3), some (.inl l4), some (.inl l5), some (.inl l6), some (.inl l7), some (.inl l8), some (.inl x17), some (.inl l10), some (.inl x12), some (.inl x19), some (.inl x21)]) rfl (Nat.le_of_ble_eq_true rfl) rfl ?_
        refine r_aload rfl rfl (am_nz h8) ?_
        refine r_getP rfl h8 ?_
        refine r_iload rfl rfl ?_
        refine r_const (x := 1) rfl rfl ?_
        refine r_bin (z := x17 - 1) rfl rfl (by decide) ?_
        refine r_iload rfl rfl ?_
        refine r_const (x := 43) rfl rfl ?_
        refine r_icmp rfl rfl (fun c22 => ?_) (fun c22 => ?_)
        · refine r_iload rfl rfl ?_
          refine r_const (x := 45) rfl rfl ?_
          refine r_icmp rfl rfl (fun c23 => ?_) (fun c23 => ?_)
          · refine r_iload rfl rfl ?_
            refine r_const (x := 42) rfl rfl ?_
            refine r_icmp rfl rfl (fun c24 => ?_) (fun c24 => ?_)
            · refine r_iload rfl rfl ?_
              refine r_if rfl rfl (fun c25 => ?_) (fun c25 => ?_)
              · refine r_iload rfl rfl ?_
                refine r_iload rfl rfl ?_
                refine r_ck (fun h26 => ?_)
                refine r_bin (z := sm_rem x19 x21) rfl (sm_rv h26) (by decide) ?_
                exact AfM_worth_J284 hr55 l0 l1 l3 l4 l5 l6 l7 l8 x17 l10 (sm_rem x19 x21) (x17 - 1) (P l0 30) I o2 (some (.inl x12)) (some (.inl x19)) (some (.inl x21))
              · refine r_const (x := 0) rfl rfl ?_
                refine r_goto rfl ?_
                exact AfM_worth_J284 hr55 l0 l1 l3 l4 l5 l6 l7 l8 x17 l10 0 (x17 - 1) (P l0 30) I o2 (some (.inl x12)) (some (.inl x19)) (some (.inl x21))
            · refine r_aload rfl rfl (am_nz h8) ?_
              refine r_iload rfl rfl ?_
              refine r_iload rfl rfl ?_
              refine r_bin (z := x19 * x21) rfl rfl (by decide) ?_
              refine r_call0 rfl rfl h8 (fun y hy => AfM_part (dp := dp + 0) hy) (fun y30 => ?_)
              refine r_goto rfl ?_
              exact AfM_worth_J284 hr55 l0 l1 l3 l4 l5 l6 l7 l8 x17 l10 y30 (x17 - 1) (P l0 30) I o2 (some (.inl x12)) (some (.inl x19)) (some (.inl x21))
          · refine r_aload rfl rfl (am_nz h8) ?_
            refine r_iload rfl rfl ?_
            refine r_iload rfl rfl ?_
            refine r_bin (z := x19 - x21) rfl rfl (by decide) ?_
            refine r_call0 rfl rfl h8 (fun y hy => AfM_part (dp := dp + 0) hy) (fun y31 => ?_)
            refine r_goto rfl ?_
            exact AfM_worth_J284 hr55 l0 l1 l3 l4 l5 l6 l7 l8 x17 l10 y31 (x17 - 1) (P l0 30) I o2 (some (.inl x12)) (some (.inl x19)) (some (.inl x21))
        · refine r_aload rfl rfl (am_nz h8) ?_
          refine r_iload rfl rfl ?_
          refine r_iload rfl rfl ?_
          refine r_bin (z := x19 + x21) rfl rfl (by decide) ?_
          refine r_call0 rfl rfl h8 (fun y hy => AfM_part (dp := dp + 0) hy) (fun y32 => ?_)
          refine r_goto rfl ?_
          exact AfM_worth_J284 hr55 l0 l1 l3 l4 l5 l6 l7 l8 x17 l10 y32 (x17 - 1) (P l0 30) I o2 (some (.inl x12)) (some (.inl x19)) (some (.inl x21))
      · refine r_aload rfl rfl (am_nz h8) ?_
        refine r_getP rfl h8 ?_
        refine r_iload rfl rfl ?_
        refine r_iload rfl rfl ?_
        refine r_if rfl rfl (fun c33 => ?_) (fun c33 => ?_)
        · refine r_iload rfl rfl ?_
          refine r_const (x := 1) rfl rfl ?_
          refine r_icmp rfl rfl (fun c34 => ?_) (fun c34 => ?_)
          · refine r_iload rfl rfl ?_
            refine r_const (x := 2) rfl rfl ?_
            refine r_icmp rfl rfl (fun c35 => ?_) (fun c35 => ?_)
            · refine r_iload rfl rfl ?_
              refine r_const (x := 3) rfl rfl ?_
              refine r_icmp rfl rfl (fun c36 => ?_) (fun c36 => ?_)
              · refine r_aload rfl rfl (am_nz h8) ?_
                refine r_iload rfl rfl ?_
                refine r_call0 rfl rfl h8 (fun y hy => AfM_part (dp := dp + 0) hy) (fun y37 => ?_)
                exact AfM_worth_J175 hr55 l0 l1 l3 l4 l5 l6 l7 l8 l9 l10 y37 l9 (P l0 30) I o2 (some (.inl x12)) o12 o13
              · refine r_iload rfl rfl ?_
                refine r_goto rfl ?_
                exact AfM_worth_J175 hr55 l0 l1 l3 l4 l5 l6 l7 l8 l9 l10 l7 l9 (P l0 30) I o2 (some (.inl x12)) o12 o13
            · refine r_iload rfl rfl ?_
              refine r_goto rfl ?_
              exact AfM_worth_J175 hr55 l0 l1 l3 l4 l5 l6 l7 l8 l9 l10 l6 l9 (P l0 30) I o2 (some (.inl x12)) o12 o13
          · refine r_iload rfl rfl ?_
            refine r_goto rfl ?_
            exact AfM_worth_J175 hr55 l0 l1 l3 l4 l5 l6 l7 l8 l9 l10 l5 l9 (P l0 30) I o2 (some (.inl x12)) o12 o13
        · refine r_iload rfl rfl ?_
          refine r_goto rfl ?_
          exact AfM_worth_J175 hr55 l0 l1 l3 l4 l5 l6 l7 l8 l9 l10 l4 l9 (P l0 30) I o2 (some (.inl x12)) o12 o13
    · refine r_aload rfl rfl (am_nz h8) ?_
      refine r_getP rfl h8 ?_
      refine r_iload rfl rfl ?_
      refine r_aload rfl rfl (am_nz h8) ?_
      refine r_iload rfl rfl ?_
      refine r_call0 rfl rfl h8 (fun y hy => AfM_part (dp := dp + 0) hy) (fun y41 => ?_)
      refine r_ck (fun h42 => ?_)
      refine r_iast rfl h42 (fun I43 => ?_)
      refine r_iinc (e := l9 + 1) (ls' := fun x44 => [some (.inr l0), some (.inl l1), o2, some (.inl l3), some (.inl l4), some (.inl l5), some (.inl l6), some (.inl l7), some (.inl l8), some (.inl x44), some (.inl l10), some (.inl x12), o12, o13]) rfl rfl rfl (fun _ => rfl) (fun x44 => ?_)
      refine r_goto rfl ?_
      exact AfM_worth_J285 hr55 l0 l1 l3 l4 l5 l6 l7 l8 x44 l10 I43 o2 (some (.inl x12)) o12 o13
noncomputable def fM_worth_L55 (P : am_Q) (e55_291 : Nat → am_M → Option (Int32 × am_M)) : Nat → Nat → Int32 → Int32 → Int32 → Int32 → Int32 → Int32 → Int32 → Int32 → Int32 → am_M → Option (Int32 × am_M)
  | 0, _, _, _, _, _, _, _, _, _, _, _ => none
  | n + 1, l0, l1, l3, l4, l5, l6, l7, l8, l9, l10, I => fM_worth_B55 P e55_291 (fM_worth_L55 P e55_291 n) l0 l1 l3 l4 l5 l6 l7 l8 l9 l10 I
theorem AfM_worth_L55 {dp : Nat} {P : am_Q} {nx : Nat} {sl : Nat} {e55_291 : Nat → am_M → Option (Int32 × am_M)} (he55_291 : ∀ (l0 : Nat) (I : am_M) (o1 : Option am_V) (o2 : Option am_V) (o3 : Option am_V) (o4 : Option am_V) (o5 : Option am_V) (o6 : Option am_V) (o7 : Option am_V) (o8 : Option am_V) (o9 : Option am_V) (o10 : Option am_V) (o11 : Option am_V) (o12 : Option am_V) (o13 : Option am_V), sm (dp + 1) am_d152 291 [some (.inr l0), o1, o2, o3, o4, o5, o6, o7, o8, o9, o10, o11, o12, o13] [] (I, P, nx, sl) (sm_g1 P nx sl) (e55_291 l0 I)) (n : Nat) : ∀ (l0 : Nat) (l1 : Int32) (l3 : Int32) (l4 : Int32) (l5 : Int32) (l6 : Int32) (l7 : Int32) (l8 : Int32) (l9 : Int32) (l10 : Int32) (I : am_M) (o2 : Option am_V) (o11 : Option am_V) (o12 : Option am_V) (o13 : Option am_V), sm (dp + 1) am_d152 55 [some (.inr l0), some (.inl l1), o2, some (.inl l3), some (.inl l4), some (.inl l5), some (.inl l6), some (.inl l7), some (.inl l8), some (.inl l9), some (.inl l10), o11, o12, o13] [] (I, P, nx, sl) (sm_g1 P nx sl) (fM_worth_L55 P e55_291 n l0 l1 l3 l4 l5 l6 l7 l8 l9 l10 I) := by
  induction n with
  | zero => intro l0 l1 l3 l4 l5 l6 l7 l8 l9 l10 I o2 o11 o12 o13; exact sm_none
  | succ n ih => intro l0 l1 l3 l4 l5 l6 l7 l8 l9 l10 I o2 o11 o12 o13; exact AfM_worth_B55 he55_291 ih l0 l1 l3 l4 l5 l6 l7 l8 l9 l10 I o2 o11 o12 o13
noncomputable def fM_worth (P : am_Q) (l0 : Nat) (l1 : Int32) (l2 : Int32) (l3 : Int32) (l4 : Int32) (l5 : Int32) (l6 : Int32) (l7 : Int32) (I : am_M) : Option (Int32 × am_M) :=
  sm_bd ((4 * l1) + l2) fun x1 =>
  sm_ck (am_t l0 = 13) <|
  sm_ck (sm_in (P l0 11) x1) <|
  sm_ck (sm_in (P l0 12) x1) <|
  if ¬ (I (P l0 11) x1.toNatClampNeg) = (I (P l0 12) x1.toNatClampNeg) then
    (sm_ck (sm_in (P l0 11) x1) <|
    sm_bd ((80 * l1) + (I (P l0 11) x1.toNatClampNeg)) fun x7 =>
    fM_worth_L55 P (fun l0 I =>
        sm_ck (am_t l0 = 13) <|
        sm_ck (sm_in (P l0 30) 0) <|
        some (I (P l0 30) (0 : Int32).toNatClampNeg, I)) sm_fu l0 l1 l3 l4 l5 l6 l7 x1 0 x7 I)
  else
    (if ¬ (sm_rem l2 2) = 0 then
      (some (l5, I))
    else
      (some (l4, I)))
set_option maxRecDepth 100000 in
theorem AfM_worth {dp : Nat} {P : am_Q} {nx : Nat} {sl : Nat} {I : am_M} {l0 : Nat} {l1 : Int32} {l2 : Int32} {l3 : Int32} {l4 : Int32} {l5 : Int32} {l6 : Int32} {l7 : Int32} {y : Int32 × am_M} (hy : fM_worth P l0 l1 l2 l3 l4 l5 l6 l7 I = some y) : sm_T (dp + 2) 152 [.inr l0, .inl l1, .inl l2, .inl l3, .inl l4, .inl l5, .inl l6, .inl l7] (I, P, nx, sl) ((sm_g1 P nx sl) y) := by
  refine r_meth (d := am_d152) (dp := dp + 1) (ls0 := [some (.inr l0), some (.inl l1), some (.inl l2), some (.inl l3), some (.inl l4), some (.inl l5), some (.inl l6), some (.inl l7), none, none, none, none, none, none]) rfl (by decide) rfl rfl ?_ hy
  unfold fM_worth
  refine r_const (x := 4) rfl rfl ?_
  refine r_iload rfl rfl ?_
  refine r_bin (z := 4 * l1) rfl rfl (by decide) ?_
  refine r_iload rfl rfl ?_
  refine r_bin (z := (4 * l1) + l2) rfl rfl (by decide) ?_
  refine r_bd (fun x1 => ?_)
  refine r_istore (ls' := [some (.inr l0), some (.inl l1), some (.inl l2), some (.inl l3), some (.inl l4), some (.inl l5), some (.inl l6), some (.inl l7), some (.inl x1), none, none, none, none, none]) rfl (Nat.le_of_ble_eq_true rfl) rfl ?_
  refine r_ck (fun h2 => ?_)
  refine r_aload rfl rfl (am_nz h2) ?_
  refine r_getP rfl h2 ?_
  refine r_iload rfl rfl ?_
  refine r_ck (fun h3 => ?_)
  refine r_iald rfl h3 ?_
  refine r_aload rfl rfl (am_nz h2) ?_
  refine r_getP rfl h2 ?_
  refine r_iload rfl rfl ?_
  refine r_ck (fun h4 => ?_)
  refine r_iald rfl h4 ?_
  refine r_icmp rfl rfl (fun c5 => ?_) (fun c5 => ?_)
  · refine r_const (x := 0) rfl rfl ?_
    refine r_istore (ls' := [some (.inr l0), some (.inl l1), some (.inl l2), some (.inl l3), some (.inl l4), some (.inl l5), some (.inl l6), some (.inl l7), some (.inl x1), some (.inl 0), none, none, none, none]) rfl (Nat.le_of_ble_eq_true rfl) rfl ?_
    refine r_const (x := 80) rfl rfl ?_
    refine r_iload rfl rfl ?_
    refine r_bin (z := 80 * l1) rfl rfl (by decide) ?_
    refine r_aload rfl rfl (am_nz h2) ?_
    refine r_getP rfl h2 ?_
    refine r_iload rfl rfl ?_
    refine r_ck (fun h6 => ?_)
    refine r_iald rfl h6 ?_
    refine r_bin (z := (80 * l1) + (I (P l0 11) x1.toNatClampNeg)) rfl rfl (by decide) ?_
    refine r_bd (fun x7 => ?_)
    refine r_istore (ls' := [some (.inr l0), some (.inl l1), some (.inl l2), some (.inl l3), some (.inl l4), some (.inl l5), some (.inl l6), some (.inl l7), some (.inl x1), some (.inl 0), some (.inl x7), none, none, none]) rfl (Nat.le_of_ble_eq_true rfl) rfl ?_
    refine AfM_worth_L55 ?_ sm_fu l0 l1 l3 l4 l5 l6 l7 x1 0 x7 I (some (.inl l2)) none none none
    · intro l0 I o1 o2 o3 o4 o5 o6 o7 o8 o9 o10 o11 o12 o13
      refine r_ck (fun h45 => ?_)
      refine r_aload rfl rfl (am_nz h45) ?_
      refine r_getP rfl h45 ?_
      refine r_const (x := 0) rfl rfl ?_
      refine r_ck (fun h46 => ?_)
      refine r_iald rfl h46 ?_
      exact r_ireturn rfl (Or.inl rfl) rfl
  · refine r_iload rfl rfl ?_
    refine r_const (x := 2) rfl rfl ?_
    refine r_bin (z := sm_rem l2 2) rfl (sm_rv (by decide)) (by decide) ?_
    refine r_if rfl rfl (fun c47 => ?_) (fun c47 => ?_)
    · refine r_iload rfl rfl ?_
      exact r_ireturn rfl (Or.inl rfl) rfl
    · refine r_iload rfl rfl ?_
      refine r_goto rfl ?_
      exact r_ireturn rfl (Or.inl rfl) rfl
