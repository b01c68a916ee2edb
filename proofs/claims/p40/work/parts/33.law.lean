section GWL
variable {p : Program} {l : Launch} {e : Env} {R : Room} {s : State} {m : MethodId} {args : Array Value} {below : List Frame} {meth : Method} {c : Code} {Q : State → Prop} {dC : Nat → ClassId} {dI : Nat → Nat → Nat} {ad : Nat → Nat} {cy : Nat → ClassId} {nL sz nc ns : Nat} {own : String} {cc : ByteArray} {ret0 : Option FieldType} {pc : Nat} {lv : List (Nat × Value)} {rest : List Value} {σ : S0} {b L : Nat} {xs : Nat → Int32}
theorem g_sld (C : Cx p s m args meth c own cc nL ret0 dC dI ad cy sz) (hX : va_X b L xs s s.heap) (hbl : b < s.heap.size) (hbA : ¬ AW ad sz b) {i : Int32} (hin : ¬ (i < 0 ∨ L ≤ i.toNatClampNeg)) (hdg : decode cc pc = .ok (.iaload, 1)) (k : Gw p l e R s m args below meth c Q dC dI ad cy nL sz nc ns (pc + 1) lv (.int (xs i.toNatClampNeg) :: rest) σ) : Gw p l e R s m args below meth c Q dC dI ad cy nL sz nc ns pc lv (.int i :: .ref b :: rest) σ := fun ls H locs hl hP hS => va_sld C.1 C.2.1 hX hbl hbA hS hin hdg (k ls H locs hl hP hS)
theorem g_slen0 (C : Cx p s m args meth c own cc nL ret0 dC dI ad cy sz) (hX : va_X b L xs s s.heap) (hbl : b < s.heap.size) (hbA : ¬ AW ad sz b) (hdg : decode cc pc = .ok (.arraylength, 1)) (k : Gw p l e R s m args below meth c Q dC dI ad cy nL sz nc ns (pc + 1) lv (.int (Int32.ofNat L) :: rest) σ) : Gw p l e R s m args below meth c Q dC dI ad cy nL sz nc ns pc lv (.ref b :: rest) σ := fun ls H locs hl hP hS => va_slen C.1 C.2.1 hX hbl hbA hS hdg (k ls H locs hl hP hS)
theorem g_lret (C : Cx p s m #[Value.ref b] meth c RL cL_law 4 (some .boolean) dC dI ad cy sz) (hlo : ∀ q, AW ad sz q → s.heap.size ≤ q) (hcs : nc ≤ 600000 ∧ ns ≤ 7302250) (hdg : decode code pc = .ok (.ireturn, 1)) : Gw p l e room_1 s m #[Value.ref b] below meth c (lw_Z below #[Value.ref b] s) dC dI ad cy 4 sz nc ns pc lv [.int 1] σ := fun ls H locs hl hP hS => va_forget (fun q hq => hlo _ (hS.2.2 q hq)) (W.widen hcs.1 hcs.2 (lw_ret C.1 C.2.1 C.2.2.2.2.2.2.2.1 C.2.2.2.2.2.2.2.2.1 hdg))
end GWL
def fL_b18 (xs : Nat → Int32) (L : Nat) (sf_18 : S0 → Int32 → Option (Int32 × S0)) (σ : S0) (x3 : Int32) : Option (Int32 × S0) := if ((Int32.ofNat L) - 5) < x3 then (some (1, σ)) else (og (¬ (x3 < 0 ∨ L ≤ x3.toNatClampNeg)) (ol (xs x3.toNatClampNeg) (fun v3 => ol (v3 &&& 63) (fun v4 => if v4.toInt < 0 ∨ 38 < v4.toInt then (ol (x3 + 5) (fun v6 => sf_18 σ v6)) else if v4 = 0 then (ol (x3 + 1) (fun v8 => og (¬ (v8 < 0 ∨ L ≤ v8.toNatClampNeg)) (ol (xs v8.toNatClampNeg) (fun v10 => ol (x3 + 2) (fun v11 => og (¬ (v11 < 0 ∨ L ≤ v11.toNatClampNeg)) (ol (xs v11.toNatClampNeg) (fun v13 => obp (fX10_feed σ ((v10.toInt64 <<< (((32 : Int32)).toInt64 &&& 63)) ||| (v13.toInt64 &&& 4294967295))) (fun r14 σ15 => ol (x3 + 1) (fun v17 => og (¬ (v17 < 0 ∨ L ≤ v17.toNatClampNeg)) (ol (xs v17.toNatClampNeg) (fun v19 => ol (x3 + 2) (fun v20 => og (¬ (v20 < 0 ∨ L ≤ v20.toNatClampNeg)) (ol (xs v20.toNatClampNeg) (fun v22 => obp (fX11_feed σ15 ((v19.toInt64 <<< (((32 : Int32)).toInt64 &&& 63)) ||| (v22.toInt64 &&& 4294967295))) (fun r23 σ24 => ol (x3 + 5) (fun v26 => sf_18 σ24 v26)))))))))))))))) else if v4 = 1 then (ol (x3 + 1) (fun v28 => og (¬ (v28 < 0 ∨ L ≤ v28.toNatClampNeg)) (ol (xs v28.toNatClampNeg) (fun v30 => obp (fX10_end σ v30) (fun r31 σ32 => ol (x3 + 1) (fun v34 => og (¬ (v34 < 0 ∨ L ≤ v34.toNatClampNeg)) (ol (xs v34.toNatClampNeg) (fun v36 => obp (fX11_end σ32 v36) (fun r37 σ38 => ol (x3 + 5) (fun v40 => sf_18 σ38 v40)))))))))) else if v4 = 2 then (obp (fX10_text σ) (fun r42 σ43 => obp (fX11_text σ43) (fun r45 σ46 => ol (x3 + 5) (fun v48 => sf_18 σ46 v48)))) else if v4 = 3 then (obp (fX10_fault σ) (fun r50 σ51 => obp (fX11_fault σ51) (fun r53 σ54 => ol (x3 + 5) (fun v56 => sf_18 σ54 v56)))) else if v4 = 4 then (ol (x3 + 1) (fun v58 => og (¬ (v58 < 0 ∨ L ≤ v58.toNatClampNeg)) (ol (xs v58.toNatClampNeg) (fun v60 => obp (fX10_rule σ v60) (fun r61 σ62 => ol (x3 + 1) (fun v64 => og (¬ (v64 < 0 ∨ L ≤ v64.toNatClampNeg)) (ol (xs v64.toNatClampNeg) (fun v66 => obp (fX11_rule σ62 v66) (fun r67 σ68 => ol (x3 + 5) (fun v70 => sf_18 σ68 v70)))))))))) else if v4 = 5 then (ol (x3 + 1) (fun v72 => og (¬ (v72 < 0 ∨ L ≤ v72.toNatClampNeg)) (ol (xs v72.toNatClampNeg) (fun v74 => ol (x3 + 2) (fun v75 => og (¬ (v75 < 0 ∨ L ≤ v75.toNatClampNeg)) (ol (xs v75.toNatClampNeg) (fun v77 => obp (fX10_bell σ v74 v77) (fun r78 σ79 => ol (x3 + 1) (fun v81 => og (¬ (v81 < 0 ∨ L ≤ v81.toNatClampNeg)) (ol (xs v81.toNatClampNeg) (fun v83 => ol (x3 + 2) (fun v84 => og (¬ (v84 < 0 ∨ L ≤ v84.toNatClampNeg)) (ol (xs v84.toNatClampNeg) (fun v86 => obp (fX11_bell σ79 v83 v86) (fun r87 σ88 => ol (x3 + 5) (fun v90 => sf_18 σ88 v90)))))))))))))))) else if v4 = 6 then (ol (x3 + 1) (fun v92 => og (¬ (v92 < 0 ∨ L ≤ v92.toNatClampNeg)) (ol (xs v92.toNatClampNeg) (fun v94 => ol (x3 + 2) (fun v95 => og (¬ (v95 < 0 ∨ L ≤ v95.toNatClampNeg)) (ol (xs v95.toNatClampNeg) (fun v97 => obp (fX10_tune σ v94 v97) (fun r98 σ99 => ol (x3 + 1) (fun v101 => og (¬ (v101 < 0 ∨ L ≤ v101.toNatClampNeg)) (ol (xs v101.toNatClampNeg) (fun v103 => ol (x3 + 2) (fun v104 => og (¬ (v104 < 0 ∨ L ≤ v104.toNatClampNeg)) (ol (xs v104.toNatClampNeg) (fun v106 => obp (fX11_tune σ99 v103 v106) (fun r107 σ108 => ol (x3 + 5) (fun v110 => sf_18 σ108 v110)))))))))))))))) else if v4 = 7 then (ol (x3 + 1) (fun v112 => og (¬ (v112 < 0 ∨ L ≤ v112.toNatClampNeg)) (ol (xs v112.toNatClampNeg) (fun v114 => obp (fX10_feuds σ v114) (fun r115 σ116 => ol (x3 + 1) (fun v118 => og (¬ (v118 < 0 ∨ L ≤ v118.toNatClampNeg)) (ol (xs v118.toNatClampNeg) (fun v120 => obp (fX11_feuds σ116 v120) (fun r121 σ122 => ol (x3 + 5) (fun v124 => sf_18 σ122 v124)))))))))) else if v4 = 8 then (ol (x3 + 1) (fun v126 => og (¬ (v126 < 0 ∨ L ≤ v126.toNatClampNeg)) (ol (xs v126.toNatClampNeg) (fun v128 => ol (x3 + 2) (fun v129 => og (¬ (v129 < 0 ∨ L ≤ v129.toNatClampNeg)) (ol (xs v129.toNatClampNeg) (fun v131 => obp (fX10_fee σ v128 v131) (fun r132 σ133 => ol (x3 + 1) (fun v135 => og (¬ (v135 < 0 ∨ L ≤ v135.toNatClampNeg)) (ol (xs v135.toNatClampNeg) (fun v137 => ol (x3 + 2) (fun v138 => og (¬ (v138 < 0 ∨ L ≤ v138.toNatClampNeg)) (ol (xs v138.toNatClampNeg) (fun v140 => obp (fX11_fee σ133 v137 v140) (fun r141 σ142 => ol (x3 + 5) (fun v144 => sf_18 σ142 v144)))))))))))))))) else if v4 = 9 then (ol (x3 + 1) (fun v146 => og (¬ (v146 < 0 ∨ L ≤ v146.toNatClampNeg)) (ol (xs v146.toNatClampNeg) (fun v148 => ol (x3 + 2) (fun v149 => og (¬ (v149 < 0 ∨ L ≤ v149.toNatClampNeg)) (ol (xs v149.toNatClampNeg) (fun v151 => if v151 = 0 then (obp (fX10_shut σ v148 ((0 : Int32))) (fun r153 σ154 => ol (x3 + 1) (fun v156 => og (¬ (v156 < 0 ∨ L ≤ v156.toNatClampNeg)) (ol (xs v156.toNatClampNeg) (fun v158 => ol (x3 + 2) (fun v159 => og (¬ (v159 < 0 ∨ L ≤ v159.toNatClampNeg)) (ol (xs v159.toNatClampNeg) (fun v161 => if v161 = 0 then (obp (fX11_shut σ154 v158 ((0 : Int32))) (fun r163 σ164 => ol (x3 + 5) (fun v166 => sf_18 σ164 v166))) else (obp (fX11_shut σ154 v158 ((1 : Int32))) (fun r167 σ168 => ol (x3 + 5) (fun v170 => sf_18 σ168 v170))))))))))) else (obp (fX10_shut σ v148 ((1 : Int32))) (fun r171 σ172 => ol (x3 + 1) (fun v174 => og (¬ (v174 < 0 ∨ L ≤ v174.toNatClampNeg)) (ol (xs v174.toNatClampNeg) (fun v176 => ol (x3 + 2) (fun v177 => og (¬ (v177 < 0 ∨ L ≤ v177.toNatClampNeg)) (ol (xs v177.toNatClampNeg) (fun v179 => if v179 = 0 then (obp (fX11_shut σ172 v176 ((0 : Int32))) (fun r181 σ182 => ol (x3 + 5) (fun v184 => sf_18 σ182 v184))) else (obp (fX11_shut σ172 v176 ((1 : Int32))) (fun r185 σ186 => ol (x3 + 5) (fun v188 => sf_18 σ186 v188)))))))))))))))))) else if v4 = 10 then (ol (x3 + 1) (fun v190 => og (¬ (v190 < 0 ∨ L ≤ v190.toNatClampNeg)) (ol (xs v190.toNatClampNeg) (fun v192 => ol (x3 + 2) (fun v193 => og (¬ (v193 < 0 ∨ L ≤ v193.toNatClampNeg)) (ol (xs v193.toNatClampNeg) (fun v195 => obp (fX10_sell σ v192 v195) (fun r196 σ197 => ol (x3 + 1) (fun v199 => og (¬ (v199 < 0 ∨ L ≤ v199.toNatClampNeg)) (ol (xs v199.toNatClampNeg) (fun v201 => ol (x3 + 2) (fun v202 => og (¬ (v202 < 0 ∨ L ≤ v202.toNatClampNeg)) (ol (xs v202.toNatClampNeg) (fun v204 => obp (fX11_sell σ197 v201 v204) (fun r205 σ206 => ol (x3 + 5) (fun v208 => sf_18 σ206 v208)))))))))))))))) else if v4 = 11 then (ol (x3 + 1) (fun v210 => og (¬ (v210 < 0 ∨ L ≤ v210.toNatClampNeg)) (ol (xs v210.toNatClampNeg) (fun v212 => ol (x3 + 2) (fun v213 => og (¬ (v213 < 0 ∨ L ≤ v213.toNatClampNeg)) (ol (xs v213.toNatClampNeg) (fun v215 => obp (fX10_half σ v212 v215) (fun r216 σ217 => ol (x3 + 1) (fun v219 => og (¬ (v219 < 0 ∨ L ≤ v219.toNatClampNeg)) (ol (xs v219.toNatClampNeg) (fun v221 => ol (x3 + 2) (fun v222 => og (¬ (v222 < 0 ∨ L ≤ v222.toNatClampNeg)) (ol (xs v222.toNatClampNeg) (fun v224 => obp (fX11_half σ217 v221 v224) (fun r225 σ226 => ol (x3 + 5) (fun v228 => sf_18 σ226 v228)))))))))))))))) else if v4 = 12 then (ol (x3 + 1) (fun v230 => og (¬ (v230 < 0 ∨ L ≤ v230.toNatClampNeg)) (ol (xs v230.toNatClampNeg) (fun v232 => ol (x3 + 2) (fun v233 => og (¬ (v233 < 0 ∨ L ≤ v233.toNatClampNeg)) (ol (xs v233.toNatClampNeg) (fun v235 => ol (x3 + 3) (fun v236 => og (¬ (v236 < 0 ∨ L ≤ v236.toNatClampNeg)) (ol (xs v236.toNatClampNeg) (fun v238 => if v238 = 0 then (obp (fX10_feud σ v232 v235 ((0 : Int32))) (fun r240 σ241 => ol (x3 + 1) (fun v243 => og (¬ (v243 < 0 ∨ L ≤ v243.toNatClampNeg)) (ol (xs v243.toNatClampNeg) (fun v245 => ol (x3 + 2) (fun v246 => og (¬ (v246 < 0 ∨ L ≤ v246.toNatClampNeg)) (ol (xs v246.toNatClampNeg) (fun v248 => ol (x3 + 3) (fun v249 => og (¬ (v249 < 0 ∨ L ≤ v249.toNatClampNeg)) (ol (xs v249.toNatClampNeg) (fun v251 => if v251 = 0 then (obp (fX11_feud σ241 v245 v248 ((0 : Int32))) (fun r253 σ254 => ol (x3 + 5) (fun v256 => sf_18 σ254 v256))) else (obp (fX11_feud σ241 v245 v248 ((1 : Int32))) (fun r257 σ258 => ol (x3 + 5) (fun v260 => sf_18 σ258 v260)))))))))))))) else (obp (fX10_feud σ v232 v235 ((1 : Int32))) (fun r261 σ262 => ol (x3 + 1) (fun v264 => og (¬ (v264 < 0 ∨ L ≤ v264.toNatClampNeg)) (ol (xs v264.toNatClampNeg) (fun v266 => ol (x3 + 2) (fun v267 => og (¬ (v267 < 0 ∨ L ≤ v267.toNatClampNeg)) (ol (xs v267.toNatClampNeg) (fun v269 => ol (x3 + 3) (fun v270 => og (¬ (v270 < 0 ∨ L ≤ v270.toNatClampNeg)) (ol (xs v270.toNatClampNeg) (fun v272 => if v272 = 0 then (obp (fX11_feud σ262 v266 v269 ((0 : Int32))) (fun r274 σ275 => ol (x3 + 5) (fun v277 => sf_18 σ275 v277))) else (obp (fX11_feud σ262 v266 v269 ((1 : Int32))) (fun r278 σ279 => ol (x3 + 5) (fun v281 => sf_18 σ279 v281)))))))))))))))))))))))) else if v4 = 13 then (ol (x3 + 1) (fun v283 => og (¬ (v283 < 0 ∨ L ≤ v283.toNatClampNeg)) (ol (xs v283.toNatClampNeg) (fun v285 => obp (fX10_feuding σ v285) (fun r286 σ287 => ol (x3 + 1) (fun v289 => og (¬ (v289 < 0 ∨ L ≤ v289.toNatClampNeg)) (ol (xs v289.toNatClampNeg) (fun v291 => obp (fX11_feuding σ287 v291) (fun r292 σ293 => ol (x3 + 5) (fun v295 => sf_18 σ293 v295)))))))))) else if v4 = 14 then (ol (x3 + 1) (fun v297 => og (¬ (v297 < 0 ∨ L ≤ v297.toNatClampNeg)) (ol (xs v297.toNatClampNeg) (fun v299 => ol (x3 + 2) (fun v300 => og (¬ (v300 < 0 ∨ L ≤ v300.toNatClampNeg)) (ol (xs v300.toNatClampNeg) (fun v302 => obp (fX10_ring σ v299 v302) (fun r303 σ304 => ol (x3 + 1) (fun v306 => og (¬ (v306 < 0 ∨ L ≤ v306.toNatClampNeg)) (ol (xs v306.toNatClampNeg) (fun v308 => ol (x3 + 2) (fun v309 => og (¬ (v309 < 0 ∨ L ≤ v309.toNatClampNeg)) (ol (xs v309.toNatClampNeg) (fun v311 => obp (fX11_ring σ304 v308 v311) (fun r312 σ313 => ol (x3 + 5) (fun v315 => sf_18 σ313 v315)))))))))))))))) else if v4 = 15 then (obp (fX10_taken σ) (fun r317 σ318 => obp (fX11_taken σ318) (fun r320 σ321 => ol (x3 + 5) (fun v323 => sf_18 σ321 v323)))) else if v4 = 16 then (ol (x3 + 1) (fun v325 => og (¬ (v325 < 0 ∨ L ≤ v325.toNatClampNeg)) (ol (xs v325.toNatClampNeg) (fun v327 => ol (x3 + 2) (fun v328 => og (¬ (v328 < 0 ∨ L ≤ v328.toNatClampNeg)) (ol (xs v328.toNatClampNeg) (fun v330 => obp (fX10_gets σ v327 v330) (fun r331 σ332 => ol (x3 + 1) (fun v334 => og (¬ (v334 < 0 ∨ L ≤ v334.toNatClampNeg)) (ol (xs v334.toNatClampNeg) (fun v336 => ol (x3 + 2) (fun v337 => og (¬ (v337 < 0 ∨ L ≤ v337.toNatClampNeg)) (ol (xs v337.toNatClampNeg) (fun v339 => obp (fX11_gets σ332 v336 v339) (fun r340 σ341 => ol (x3 + 5) (fun v343 => sf_18 σ341 v343)))))))))))))))) else if v4 = 17 then (ol (x3 + 1) (fun v345 => og (¬ (v345 < 0 ∨ L ≤ v345.toNatClampNeg)) (ol (xs v345.toNatClampNeg) (fun v347 => obp (fX10_wage σ v347) (fun r348 σ349 => ol (x3 + 1) (fun v351 => og (¬ (v351 < 0 ∨ L ≤ v351.toNatClampNeg)) (ol (xs v351.toNatClampNeg) (fun v353 => obp (fX11_wage σ349 v353) (fun r354 σ355 => ol (x3 + 5) (fun v357 => sf_18 σ355 v357)))))))))) else if v4 = 18 then (ol (x3 + 1) (fun v359 => og (¬ (v359 < 0 ∨ L ≤ v359.toNatClampNeg)) (ol (xs v359.toNatClampNeg) (fun v361 => ol (x3 + 2) (fun v362 => og (¬ (v362 < 0 ∨ L ≤ v362.toNatClampNeg)) (ol (xs v362.toNatClampNeg) (fun v364 => obp (fX10_ask σ v361 v364) (fun r365 σ366 => ol (x3 + 1) (fun v368 => og (¬ (v368 < 0 ∨ L ≤ v368.toNatClampNeg)) (ol (xs v368.toNatClampNeg) (fun v370 => ol (x3 + 2) (fun v371 => og (¬ (v371 < 0 ∨ L ≤ v371.toNatClampNeg)) (ol (xs v371.toNatClampNeg) (fun v373 => obp (fX11_ask σ366 v370 v373) (fun r374 σ375 => ol (x3 + 5) (fun v377 => sf_18 σ375 v377)))))))))))))))) else if v4 = 19 then (ol (x3 + 1) (fun v379 => og (¬ (v379 < 0 ∨ L ≤ v379.toNatClampNeg)) (ol (xs v379.toNatClampNeg) (fun v381 => ol (x3 + 2) (fun v382 => og (¬ (v382 < 0 ∨ L ≤ v382.toNatClampNeg)) (ol (xs v382.toNatClampNeg) (fun v384 => obp (fX10_best σ v381 v384) (fun r385 σ386 => ol (x3 + 1) (fun v388 => og (¬ (v388 < 0 ∨ L ≤ v388.toNatClampNeg)) (ol (xs v388.toNatClampNeg) (fun v390 => ol (x3 + 2) (fun v391 => og (¬ (v391 < 0 ∨ L ≤ v391.toNatClampNeg)) (ol (xs v391.toNatClampNeg) (fun v393 => obp (fX11_best σ386 v390 v393) (fun r394 σ395 => ol (x3 + 5) (fun v397 => sf_18 σ395 v397)))))))))))))))) else if v4 = 20 then (ol (x3 + 1) (fun v399 => og (¬ (v399 < 0 ∨ L ≤ v399.toNatClampNeg)) (ol (xs v399.toNatClampNeg) (fun v401 => obp (fX10_settle σ v401) (fun r402 σ403 => ol (x3 + 1) (fun v405 => og (¬ (v405 < 0 ∨ L ≤ v405.toNatClampNeg)) (ol (xs v405.toNatClampNeg) (fun v407 => obp (fX11_settle σ403 v407) (fun r408 σ409 => ol (x3 + 5) (fun v411 => sf_18 σ409 v411)))))))))) else if v4 = 21 then (obp (fX10_settled σ) (fun r413 σ414 => obp (fX11_settled σ414) (fun r416 σ417 => ol (x3 + 5) (fun v419 => sf_18 σ417 v419)))) else if v4 = 22 then (ol (x3 + 1) (fun v421 => og (¬ (v421 < 0 ∨ L ≤ v421.toNatClampNeg)) (ol (xs v421.toNatClampNeg) (fun v423 => ol (x3 + 2) (fun v424 => og (¬ (v424 < 0 ∨ L ≤ v424.toNatClampNeg)) (ol (xs v424.toNatClampNeg) (fun v426 => obp (fX10_feast σ v423 v426) (fun r427 σ428 => ol (x3 + 1) (fun v430 => og (¬ (v430 < 0 ∨ L ≤ v430.toNatClampNeg)) (ol (xs v430.toNatClampNeg) (fun v432 => ol (x3 + 2) (fun v433 => og (¬ (v433 < 0 ∨ L ≤ v433.toNatClampNeg)) (ol (xs v433.toNatClampNeg) (fun v435 => obp (fX11_feast σ428 v432 v435) (fun r436 σ437 => ol (x3 + 5) (fun v439 => sf_18 σ437 v439)))))))))))))))) else if v4 = 23 then (ol (x3 + 1) (fun v441 => og (¬ (v441 < 0 ∨ L ≤ v441.toNatClampNeg)) (ol (xs v441.toNatClampNeg) (fun v443 => ol (x3 + 2) (fun v444 => og (¬ (v444 < 0 ∨ L ≤ v444.toNatClampNeg)) (ol (xs v444.toNatClampNeg) (fun v446 => ol (x3 + 3) (fun v447 => og (¬ (v447 < 0 ∨ L ≤ v447.toNatClampNeg)) (ol (xs v447.toNatClampNeg) (fun v449 => obp (fX10_fair σ v443 v446 v449) (fun r450 σ451 => ol (x3 + 1) (fun v453 => og (¬ (v453 < 0 ∨ L ≤ v453.toNatClampNeg)) (ol (xs v453.toNatClampNeg) (fun v455 => ol (x3 + 2) (fun v456 => og (¬ (v456 < 0 ∨ L ≤ v456.toNatClampNeg)) (ol (xs v456.toNatClampNeg) (fun v458 => ol (x3 + 3) (fun v459 => og (¬ (v459 < 0 ∨ L ≤ v459.toNatClampNeg)) (ol (xs v459.toNatClampNeg) (fun v461 => obp (fX11_fair σ451 v455 v458 v461) (fun r462 σ463 => ol (x3 + 5) (fun v465 => sf_18 σ463 v465)))))))))))))))))))))) else if v4 = 24 then (ol (x3 + 1) (fun v467 => og (¬ (v467 < 0 ∨ L ≤ v467.toNatClampNeg)) (ol (xs v467.toNatClampNeg) (fun v469 => ol (x3 + 2) (fun v470 => og (¬ (v470 < 0 ∨ L ≤ v470.toNatClampNeg)) (ol (xs v470.toNatClampNeg) (fun v472 => ol (x3 + 3) (fun v473 => og (¬ (v473 < 0 ∨ L ≤ v473.toNatClampNeg)) (ol (xs v473.toNatClampNeg) (fun v475 => obp (fX10_nearest σ v469 v472 v475) (fun r476 σ477 => ol (x3 + 1) (fun v479 => og (¬ (v479 < 0 ∨ L ≤ v479.toNatClampNeg)) (ol (xs v479.toNatClampNeg) (fun v481 => ol (x3 + 2) (fun v482 => og (¬ (v482 < 0 ∨ L ≤ v482.toNatClampNeg)) (ol (xs v482.toNatClampNeg) (fun v484 => ol (x3 + 3) (fun v485 => og (¬ (v485 < 0 ∨ L ≤ v485.toNatClampNeg)) (ol (xs v485.toNatClampNeg) (fun v487 => obp (fX11_nearest σ477 v481 v484 v487) (fun r488 σ489 => ol (x3 + 5) (fun v491 => sf_18 σ489 v491)))))))))))))))))))))) else if v4 = 25 then (ol (x3 + 1) (fun v493 => og (¬ (v493 < 0 ∨ L ≤ v493.toNatClampNeg)) (ol (xs v493.toNatClampNeg) (fun v495 => obp (fX10_dear σ v495) (fun r496 σ497 => ol (x3 + 1) (fun v499 => og (¬ (v499 < 0 ∨ L ≤ v499.toNatClampNeg)) (ol (xs v499.toNatClampNeg) (fun v501 => obp (fX11_dear σ497 v501) (fun r502 σ503 => ol (x3 + 5) (fun v505 => sf_18 σ503 v505)))))))))) else if v4 = 26 then (ol (x3 + 1) (fun v507 => og (¬ (v507 < 0 ∨ L ≤ v507.toNatClampNeg)) (ol (xs v507.toNatClampNeg) (fun v509 => ol (x3 + 2) (fun v510 => og (¬ (v510 < 0 ∨ L ≤ v510.toNatClampNeg)) (ol (xs v510.toNatClampNeg) (fun v512 => obp (fX10_storm σ v509 v512) (fun r513 σ514 => ol (x3 + 1) (fun v516 => og (¬ (v516 < 0 ∨ L ≤ v516.toNatClampNeg)) (ol (xs v516.toNatClampNeg) (fun v518 => ol (x3 + 2) (fun v519 => og (¬ (v519 < 0 ∨ L ≤ v519.toNatClampNeg)) (ol (xs v519.toNatClampNeg) (fun v521 => obp (fX11_storm σ514 v518 v521) (fun r522 σ523 => ol (x3 + 5) (fun v525 => sf_18 σ523 v525)))))))))))))))) else if v4 = 27 then (ol (x3 + 1) (fun v527 => og (¬ (v527 < 0 ∨ L ≤ v527.toNatClampNeg)) (ol (xs v527.toNatClampNeg) (fun v529 => ol (x3 + 2) (fun v530 => og (¬ (v530 < 0 ∨ L ≤ v530.toNatClampNeg)) (ol (xs v530.toNatClampNeg) (fun v532 => obp (fX10_wine σ v529 v532) (fun r533 σ534 => ol (x3 + 1) (fun v536 => og (¬ (v536 < 0 ∨ L ≤ v536.toNatClampNeg)) (ol (xs v536.toNatClampNeg) (fun v538 => ol (x3 + 2) (fun v539 => og (¬ (v539 < 0 ∨ L ≤ v539.toNatClampNeg)) (ol (xs v539.toNatClampNeg) (fun v541 => obp (fX11_wine σ534 v538 v541) (fun r542 σ543 => ol (x3 + 5) (fun v545 => sf_18 σ543 v545)))))))))))))))) else if v4 = 28 then (ol (x3 + 1) (fun v547 => og (¬ (v547 < 0 ∨ L ≤ v547.toNatClampNeg)) (ol (xs v547.toNatClampNeg) (fun v549 => obp (fX10_hear σ v549) (fun r550 σ551 => ol (x3 + 1) (fun v553 => og (¬ (v553 < 0 ∨ L ≤ v553.toNatClampNeg)) (ol (xs v553.toNatClampNeg) (fun v555 => obp (fX11_hear σ551 v555) (fun r556 σ557 => ol (x3 + 5) (fun v559 => sf_18 σ557 v559)))))))))) else if v4 = 29 then (obp (fX10_hush σ) (fun r561 σ562 => obp (fX11_hush σ562) (fun r564 σ565 => ol (x3 + 5) (fun v567 => sf_18 σ565 v567)))) else if v4 = 30 then (ol (x3 + 1) (fun v569 => og (¬ (v569 < 0 ∨ L ≤ v569.toNatClampNeg)) (ol (xs v569.toNatClampNeg) (fun v571 => obp (fX10_fits σ v571) (fun r572 σ573 => ol (x3 + 1) (fun v575 => og (¬ (v575 < 0 ∨ L ≤ v575.toNatClampNeg)) (ol (xs v575.toNatClampNeg) (fun v577 => obp (fX11_fits σ573 v577) (fun r578 σ579 => ol (x3 + 5) (fun v581 => sf_18 σ579 v581)))))))))) else if v4 = 31 then (ol (x3 + 1) (fun v583 => og (¬ (v583 < 0 ∨ L ≤ v583.toNatClampNeg)) (ol (xs v583.toNatClampNeg) (fun v585 => obp (fX10_which σ v585) (fun r586 σ587 => ol (x3 + 1) (fun v589 => og (¬ (v589 < 0 ∨ L ≤ v589.toNatClampNeg)) (ol (xs v589.toNatClampNeg) (fun v591 => obp (fX11_which σ587 v591) (fun r592 σ593 => ol (x3 + 5) (fun v595 => sf_18 σ593 v595)))))))))) else if v4 = 32 then (ol (x3 + 1) (fun v597 => og (¬ (v597 < 0 ∨ L ≤ v597.toNatClampNeg)) (ol (xs v597.toNatClampNeg) (fun v599 => obp (fX10_keep σ v599) (fun r600 σ601 => ol (x3 + 1) (fun v603 => og (¬ (v603 < 0 ∨ L ≤ v603.toNatClampNeg)) (ol (xs v603.toNatClampNeg) (fun v605 => obp (fX11_keep σ601 v605) (fun r606 σ607 => ol (x3 + 5) (fun v609 => sf_18 σ607 v609)))))))))) else if v4 = 33 then (ol (x3 + 1) (fun v611 => og (¬ (v611 < 0 ∨ L ≤ v611.toNatClampNeg)) (ol (xs v611.toNatClampNeg) (fun v613 => obp (fX10_back σ v613) (fun r614 σ615 => ol (x3 + 1) (fun v617 => og (¬ (v617 < 0 ∨ L ≤ v617.toNatClampNeg)) (ol (xs v617.toNatClampNeg) (fun v619 => obp (fX11_back σ615 v619) (fun r620 σ621 => ol (x3 + 5) (fun v623 => sf_18 σ621 v623)))))))))) else if v4 = 34 then (ol (x3 + 1) (fun v625 => og (¬ (v625 < 0 ∨ L ≤ v625.toNatClampNeg)) (ol (xs v625.toNatClampNeg) (fun v627 => ol (x3 + 2) (fun v628 => og (¬ (v628 < 0 ∨ L ≤ v628.toNatClampNeg)) (ol (xs v628.toNatClampNeg) (fun v630 => ol (x3 + 3) (fun v631 => og (¬ (v631 < 0 ∨ L ≤ v631.toNatClampNeg)) (ol (xs v631.toNatClampNeg) (fun v633 => obp (fX10_sheet σ v627 v630 v633) (fun r634 σ635 => ol (x3 + 1) (fun v637 => og (¬ (v637 < 0 ∨ L ≤ v637.toNatClampNeg)) (ol (xs v637.toNatClampNeg) (fun v639 => ol (x3 + 2) (fun v640 => og (¬ (v640 < 0 ∨ L ≤ v640.toNatClampNeg)) (ol (xs v640.toNatClampNeg) (fun v642 => ol (x3 + 3) (fun v643 => og (¬ (v643 < 0 ∨ L ≤ v643.toNatClampNeg)) (ol (xs v643.toNatClampNeg) (fun v645 => obp (fX11_sheet σ635 v639 v642 v645) (fun r646 σ647 => ol (x3 + 5) (fun v649 => sf_18 σ647 v649)))))))))))))))))))))) else if v4 = 35 then (ol (x3 + 1) (fun v651 => og (¬ (v651 < 0 ∨ L ≤ v651.toNatClampNeg)) (ol (xs v651.toNatClampNeg) (fun v653 => ol (x3 + 2) (fun v654 => og (¬ (v654 < 0 ∨ L ≤ v654.toNatClampNeg)) (ol (xs v654.toNatClampNeg) (fun v656 => ol (x3 + 3) (fun v657 => og (¬ (v657 < 0 ∨ L ≤ v657.toNatClampNeg)) (ol (xs v657.toNatClampNeg) (fun v659 => obp (fX10_lay σ v653 v656 v659) (fun r660 σ661 => ol (x3 + 1) (fun v663 => og (¬ (v663 < 0 ∨ L ≤ v663.toNatClampNeg)) (ol (xs v663.toNatClampNeg) (fun v665 => ol (x3 + 2) (fun v666 => og (¬ (v666 < 0 ∨ L ≤ v666.toNatClampNeg)) (ol (xs v666.toNatClampNeg) (fun v668 => ol (x3 + 3) (fun v669 => og (¬ (v669 < 0 ∨ L ≤ v669.toNatClampNeg)) (ol (xs v669.toNatClampNeg) (fun v671 => obp (fX11_lay σ661 v665 v668 v671) (fun r672 σ673 => ol (x3 + 5) (fun v675 => sf_18 σ673 v675)))))))))))))))))))))) else if v4 = 36 then (ol (x3 + 1) (fun v677 => og (¬ (v677 < 0 ∨ L ≤ v677.toNatClampNeg)) (ol (xs v677.toNatClampNeg) (fun v679 => ol (x3 + 2) (fun v680 => og (¬ (v680 < 0 ∨ L ≤ v680.toNatClampNeg)) (ol (xs v680.toNatClampNeg) (fun v682 => ol (x3 + 3) (fun v683 => og (¬ (v683 < 0 ∨ L ≤ v683.toNatClampNeg)) (ol (xs v683.toNatClampNeg) (fun v685 => ol (x3 + 4) (fun v686 => og (¬ (v686 < 0 ∨ L ≤ v686.toNatClampNeg)) (ol (xs v686.toNatClampNeg) (fun v688 => obp (fX10_read σ v679 v682 v685 v688) (fun r689 σ690 => ol (x3 + 1) (fun v692 => og (¬ (v692 < 0 ∨ L ≤ v692.toNatClampNeg)) (ol (xs v692.toNatClampNeg) (fun v694 => ol (x3 + 2) (fun v695 => og (¬ (v695 < 0 ∨ L ≤ v695.toNatClampNeg)) (ol (xs v695.toNatClampNeg) (fun v697 => ol (x3 + 3) (fun v698 => og (¬ (v698 < 0 ∨ L ≤ v698.toNatClampNeg)) (ol (xs v698.toNatClampNeg) (fun v700 => ol (x3 + 4) (fun v701 => og (¬ (v701 < 0 ∨ L ≤ v701.toNatClampNeg)) (ol (xs v701.toNatClampNeg) (fun v703 => obp (fX11_read σ690 v694 v697 v700 v703) (fun r704 σ705 => ol (x3 + 5) (fun v707 => sf_18 σ705 v707)))))))))))))))))))))))))))) else if v4 = 37 then (obp (fX10_torn σ) (fun r709 σ710 => obp (fX11_torn σ710) (fun r712 σ713 => ol (x3 + 5) (fun v715 => sf_18 σ713 v715)))) else if v4 = 38 then (ol (x3 + 1) (fun v717 => og (¬ (v717 < 0 ∨ L ≤ v717.toNatClampNeg)) (ol (xs v717.toNatClampNeg) (fun v719 => obp (fX10_count σ v719) (fun r720 σ721 => ol (x3 + 1) (fun v723 => og (¬ (v723 < 0 ∨ L ≤ v723.toNatClampNeg)) (ol (xs v723.toNatClampNeg) (fun v725 => obp (fX11_count σ721 v725) (fun r726 σ727 => if r720 = r726 then (ol (x3 + 5) (fun v730 => sf_18 σ727 v730)) else (some (0, σ727))))))))))) else none))))
set_option maxHeartbeats 4000000 in
set_option maxRecDepth 100000 in
theorem fL_b18_ok {p : Program} {l : Launch} {e : Env} {s : State} {m : MethodId} {below : List Frame} {meth : Method} {c : Code} {dC : Nat → ClassId} {dI : Nat → Nat → Nat} {ad : Nat → Nat} {cy : Nat → ClassId} {z b L : Nat} {xs : Nat → Int32} (C : Cx p s m #[Value.ref b] meth c RL cL_law 4 (some .boolean) dC dI ad cy z) (hX : va_X b L xs s s.heap) (hbl : b < s.heap.size) (hbA : ¬ AW ad z b) (hlo : ∀ q, AW ad z q → s.heap.size ≤ q) {ρ : S0} (sf_18 : S0 → Int32 → Option (Int32 × S0)) (hs_18 : ∀ (σ : S0) (x3 : Int32), sf_18 σ x3 = some (1, ρ) → Gw p l e room_1 s m #[Value.ref b] below meth c (lw_Z below #[Value.ref b] s) dC dI ad cy 4 z 111 2532 18 [(0, .ref b), (1, .ref (ad 0)), (2, .ref (ad 98)), (3, .int x3)] [] σ) (σ : S0) (x3 : Int32) (hf : fL_b18 xs L sf_18 σ x3 = some (1, ρ)) : Gw p l e room_1 s m #[Value.ref b] below meth c (lw_Z below #[Value.ref b] s) dC dI ad cy 4 z 111 2532 18 [(0, .ref b), (1, .ref (ad 0)), (2, .ref (ad 98)), (3, .int x3)] [] σ := by
  unfold fL_b18 at hf
  refine g_iload_n C dL_law_18 rfl 3 rfl ?_
  refine g_aload_n C dL_law_19 rfl 0 rfl ?_
  refine g_slen0 C hX hbl hbA dL_law_20 ?_
  refine g_iconst (v := 5) C dL_law_21 (by decide) ?_
  refine g_isub C dL_law_22 ?_
  rcases oi_e hf with ⟨c1, hf⟩ | ⟨c1, hf⟩
  · refine g_icmp_gt_t (tgt := 1369) C dL_law_23 (by decide) c1 ?_
    refine g_iconst (v := 1) C dL_law_1369 (by decide) ?_
    exact g_lret C hlo ⟨Nat.le_of_ble_eq_true rfl, Nat.le_of_ble_eq_true rfl⟩ dL_law_1370
  · refine g_icmp_gt_f (tgt := 1369) C dL_law_23 (by decide) c1 ?_
    refine g_aload_n C dL_law_26 rfl 0 rfl ?_
    refine g_iload_n C dL_law_27 rfl 3 rfl ?_
    obtain ⟨h2, hf⟩ := og_e hf
    refine g_sld C hX hbl hbA h2 dL_law_28 ?_
    obtain ⟨v3, ev3, hf⟩ := ol_e hf
    refine g_nm ev3 ?_
    refine g_bipush (v := 63) C dL_law_29 (by decide) ?_
    refine g_iand C dL_law_31 ?_
    obtain ⟨v4, ev4, hf⟩ := ol_e hf
    refine g_nm ev4 ?_
    rcases oi_e hf with ⟨c5, hf⟩ | ⟨c5, hf⟩
    · refine g_tout (tgt := 1363) C dL_law_32 c5 (by decide) ?_
      obtain ⟨v6, ev6, hf⟩ := ol_e hf
      refine g_iinc (j := 3) (w := 5) (lv2 := [(0, .ref b), (1, .ref (ad 0)), (2, .ref (ad 98)), (3, .int v6)]) C dL_law_1363 rfl (by decide) ev6 (by decide) [1, 2, 3, 0] rfl ?_
      refine g_goto (tgt := 18) C dL_law_1366 (by decide) ?_
      exact g_sub [0, 1, 2, 3] rfl (hs_18 σ v6 hf)
    · skip
      rcases oi_e hf with ⟨c7, hf⟩ | ⟨c7, hf⟩
      · refine g_tin (tgt := 204) C dL_law_32 (by rw [c7]; decide) (by rw [c7]; decide) (by rw [c7]; rfl) (by decide) ?_
        refine g_aload_n C dL_law_204 rfl 1 rfl ?_
        refine g_aload_n C dL_law_205 rfl 0 rfl ?_
        refine g_iload_n C dL_law_206 rfl 3 rfl ?_
        refine g_iconst (v := 1) C dL_law_207 (by decide) ?_
        refine g_iadd C dL_law_208 ?_
        obtain ⟨v8, ev8, hf⟩ := ol_e hf
        refine g_nm ev8 ?_
        obtain ⟨h9, hf⟩ := og_e hf
        refine g_sld C hX hbl hbA h9 dL_law_209 ?_
        obtain ⟨v10, ev10, hf⟩ := ol_e hf
        refine g_nm ev10 ?_
        refine g_i2l C dL_law_210 ?_
        refine g_bipush (v := 32) C dL_law_211 (by decide) ?_
        refine g_lshl C dL_law_213 ?_
        refine g_aload_n C dL_law_214 rfl 0 rfl ?_
        refine g_iload_n C dL_law_215 rfl 3 rfl ?_
        refine g_iconst (v := 2) C dL_law_216 (by decide) ?_
        refine g_iadd C dL_law_217 ?_
        obtain ⟨v11, ev11, hf⟩ := ol_e hf
        refine g_nm ev11 ?_
        obtain ⟨h12, hf⟩ := og_e hf
        refine g_sld C hX hbl hbA h12 dL_law_218 ?_
        obtain ⟨v13, ev13, hf⟩ := ol_e hf
        refine g_nm ev13 ?_
        refine g_i2l C dL_law_219 ?_
        refine g_ldc2 (v := 4294967295) C dL_law_220 hK_L_13 ?_
        refine g_land C dL_law_223 ?_
        refine g_lor C dL_law_224 ?_
        obtain ⟨r14, σ15, h16, hf⟩ := obp_e hf
        refine g_callVi (As := [.long ((v10.toInt64 <<< (((32 : Int32)).toInt64 &&& 63)) ||| (v13.toInt64 &&& 4294967295))]) (rest := []) C (a_0 ad cy _) rfl (c_X10_feed l dC dI ad cy ((v10.toInt64 <<< (((32 : Int32)).toInt64 &&& 63)) ||| (v13.toInt64 &&& 4294967295))) h16 hM_L_15 cal_X10_feed ⟨Nat.le_of_ble_eq_true rfl, Nat.le_of_ble_eq_true rfl⟩ ⟨rfl, rfl⟩ ⟨Nat.le_of_ble_eq_true rfl, Nat.le_of_ble_eq_true rfl⟩ rfl rfl (Nat.le_of_ble_eq_true rfl) dL_law_225 ?_
        refine g_pop C dL_law_228 rfl ?_
        refine g_aload_n C dL_law_229 rfl 2 rfl ?_
        refine g_aload_n C dL_law_230 rfl 0 rfl ?_
        refine g_iload_n C dL_law_231 rfl 3 rfl ?_
        refine g_iconst (v := 1) C dL_law_232 (by decide) ?_
        refine g_iadd C dL_law_233 ?_
        obtain ⟨v17, ev17, hf⟩ := ol_e hf
        refine g_nm ev17 ?_
        obtain ⟨h18, hf⟩ := og_e hf
        refine g_sld C hX hbl hbA h18 dL_law_234 ?_
        obtain ⟨v19, ev19, hf⟩ := ol_e hf
        refine g_nm ev19 ?_
        refine g_i2l C dL_law_235 ?_
        refine g_bipush (v := 32) C dL_law_236 (by decide) ?_
        refine g_lshl C dL_law_238 ?_
        refine g_aload_n C dL_law_239 rfl 0 rfl ?_
        refine g_iload_n C dL_law_240 rfl 3 rfl ?_
        refine g_iconst (v := 2) C dL_law_241 (by decide) ?_
        refine g_iadd C dL_law_242 ?_
        obtain ⟨v20, ev20, hf⟩ := ol_e hf
        refine g_nm ev20 ?_
        obtain ⟨h21, hf⟩ := og_e hf
        refine g_sld C hX hbl hbA h21 dL_law_243 ?_
        obtain ⟨v22, ev22, hf⟩ := ol_e hf
        refine g_nm ev22 ?_
        refine g_i2l C dL_law_244 ?_
        refine g_ldc2 (v := 4294967295) C dL_law_245 hK_L_13 ?_
        refine g_land C dL_law_248 ?_
        refine g_lor C dL_law_249 ?_
        obtain ⟨r23, σ24, h25, hf⟩ := obp_e hf
        refine g_callVi (As := [.long ((v19.toInt64 <<< (((32 : Int32)).toInt64 &&& 63)) ||| (v22.toInt64 &&& 4294967295))]) (rest := []) C (a_98 ad cy _) rfl (c_X11_feed l dC dI ad cy ((v19.toInt64 <<< (((32 : Int32)).toInt64 &&& 63)) ||| (v22.toInt64 &&& 4294967295))) h25 hM_L_19 cal_X11_feed ⟨Nat.le_of_ble_eq_true rfl, Nat.le_of_ble_eq_true rfl⟩ ⟨rfl, rfl⟩ ⟨Nat.le_of_ble_eq_true rfl, Nat.le_of_ble_eq_true rfl⟩ rfl rfl (Nat.le_of_ble_eq_true rfl) dL_law_250 ?_
        refine g_pop C dL_law_253 rfl ?_
        refine g_goto (tgt := 1363) C dL_law_254 (by decide) ?_
        obtain ⟨v26, ev26, hf⟩ := ol_e hf
        refine g_iinc (j := 3) (w := 5) (lv2 := [(0, .ref b), (1, .ref (ad 0)), (2, .ref (ad 98)), (3, .int v26)]) C dL_law_1363 rfl (by decide) ev26 (by decide) [1, 2, 3, 0] rfl ?_
        refine g_goto (tgt := 18) C dL_law_1366 (by decide) ?_
        exact g_sub [0, 1, 2, 3] rfl (hs_18 σ24 v26 hf)
      · skip
        rcases oi_e hf with ⟨c27, hf⟩ | ⟨c27, hf⟩
        · refine g_tin (tgt := 257) C dL_law_32 (by rw [c27]; decide) (by rw [c27]; decide) (by rw [c27]; rfl) (by decide) ?_
          refine g_aload_n C dL_law_257 rfl 1 rfl ?_
          refine g_aload_n C dL_law_258 rfl 0 rfl ?_
          refine g_iload_n C dL_law_259 rfl 3 rfl ?_
          refine g_iconst (v := 1) C dL_law_260 (by decide) ?_
          refine g_iadd C dL_law_261 ?_
          obtain ⟨v28, ev28, hf⟩ := ol_e hf
          refine g_nm ev28 ?_
          obtain ⟨h29, hf⟩ := og_e hf
          refine g_sld C hX hbl hbA h29 dL_law_262 ?_
          obtain ⟨v30, ev30, hf⟩ := ol_e hf
          refine g_nm ev30 ?_
          obtain ⟨r31, σ32, h33, hf⟩ := obp_e hf
          refine g_callVi (As := [.int v30]) (rest := []) C (a_0 ad cy _) rfl (c_X10_end l dC dI ad cy v30) h33 hM_L_20 cal_X10_end ⟨Nat.le_of_ble_eq_true rfl, Nat.le_of_ble_eq_true rfl⟩ ⟨rfl, rfl⟩ ⟨Nat.le_of_ble_eq_true rfl, Nat.le_of_ble_eq_true rfl⟩ rfl rfl (Nat.le_of_ble_eq_true rfl) dL_law_263 ?_
          refine g_pop C dL_law_266 rfl ?_
          refine g_aload_n C dL_law_267 rfl 2 rfl ?_
          refine g_aload_n C dL_law_268 rfl 0 rfl ?_
          refine g_iload_n C dL_law_269 rfl 3 rfl ?_
          refine g_iconst (v := 1) C dL_law_270 (by decide) ?_
          refine g_iadd C dL_law_271 ?_
          obtain ⟨v34, ev34, hf⟩ := ol_e hf
          refine g_nm ev34 ?_
          obtain ⟨h35, hf⟩ := og_e hf
          refine g_sld C hX hbl hbA h35 dL_law_272 ?_
          obtain ⟨v36, ev36, hf⟩ := ol_e hf
          refine g_nm ev36 ?_
          obtain ⟨r37, σ38, h39, hf⟩ := obp_e hf
          refine g_callVi (As := [.int v36]) (rest := []) C (a_98 ad cy _) rfl (c_X11_end l dC dI ad cy v36) h39 hM_L_24 cal_X11_end ⟨Nat.le_of_ble_eq_true rfl, Nat.le_of_ble_eq_true rfl⟩ ⟨rfl, rfl⟩ ⟨Nat.le_of_ble_eq_true rfl, Nat.le_of_ble_eq_true rfl⟩ rfl rfl (Nat.le_of_ble_eq_true rfl) dL_law_273 ?_
          refine g_pop C dL_law_276 rfl ?_
          refine g_goto (tgt := 1363) C dL_law_277 (by decide) ?_
          obtain ⟨v40, ev40, hf⟩ := ol_e hf
          refine g_iinc (j := 3) (w := 5) (lv2 := [(0, .ref b), (1, .ref (ad 0)), (2, .ref (ad 98)), (3, .int v40)]) C dL_law_1363 rfl (by decide) ev40 (by decide) [1, 2, 3, 0] rfl ?_
          refine g_goto (tgt := 18) C dL_law_1366 (by decide) ?_
          exact g_sub [0, 1, 2, 3] rfl (hs_18 σ38 v40 hf)
        · skip
          rcases oi_e hf with ⟨c41, hf⟩ | ⟨c41, hf⟩
          · refine g_tin (tgt := 280) C dL_law_32 (by rw [c41]; decide) (by rw [c41]; decide) (by rw [c41]; rfl) (by decide) ?_
            refine g_aload_n C dL_law_280 rfl 1 rfl ?_
            obtain ⟨r42, σ43, h44, hf⟩ := obp_e hf
            refine g_callVi (As := []) (rest := []) C (a_0 ad cy _) rfl (c_X10_text l dC dI ad cy ) h44 hM_L_25 cal_X10_text ⟨Nat.le_of_ble_eq_true rfl, Nat.le_of_ble_eq_true rfl⟩ ⟨rfl, rfl⟩ ⟨Nat.le_of_ble_eq_true rfl, Nat.le_of_ble_eq_true rfl⟩ rfl rfl (Nat.le_of_ble_eq_true rfl) dL_law_281 ?_
            refine g_pop C dL_law_284 rfl ?_
            refine g_aload_n C dL_law_285 rfl 2 rfl ?_
            obtain ⟨r45, σ46, h47, hf⟩ := obp_e hf
            refine g_callVi (As := []) (rest := []) C (a_98 ad cy _) rfl (c_X11_text l dC dI ad cy ) h47 hM_L_29 cal_X11_text ⟨Nat.le_of_ble_eq_true rfl, Nat.le_of_ble_eq_true rfl⟩ ⟨rfl, rfl⟩ ⟨Nat.le_of_ble_eq_true rfl, Nat.le_of_ble_eq_true rfl⟩ rfl rfl (Nat.le_of_ble_eq_true rfl) dL_law_286 ?_
            refine g_pop C dL_law_289 rfl ?_
            refine g_goto (tgt := 1363) C dL_law_290 (by decide) ?_
            obtain ⟨v48, ev48, hf⟩ := ol_e hf
            refine g_iinc (j := 3) (w := 5) (lv2 := [(0, .ref b), (1, .ref (ad 0)), (2, .ref (ad 98)), (3, .int v48)]) C dL_law_1363 rfl (by decide) ev48 (by decide) [1, 2, 3, 0] rfl ?_
            refine g_goto (tgt := 18) C dL_law_1366 (by decide) ?_
            exact g_sub [0, 1, 2, 3] rfl (hs_18 σ46 v48 hf)
          · skip
            rcases oi_e hf with ⟨c49, hf⟩ | ⟨c49, hf⟩
            · refine g_tin (tgt := 293) C dL_law_32 (by rw [c49]; decide) (by rw [c49]; decide) (by rw [c49]; rfl) (by decide) ?_
              refine g_aload_n C dL_law_293 rfl 1 rfl ?_
              obtain ⟨r50, σ51, h52, hf⟩ := obp_e hf
              refine g_callVi (As := []) (rest := []) C (a_0 ad cy _) rfl (c_X10_fault l dC dI ad cy ) h52 hM_L_30 cal_X10_fault ⟨Nat.le_of_ble_eq_true rfl, Nat.le_of_ble_eq_true rfl⟩ ⟨rfl, rfl⟩ ⟨Nat.le_of_ble_eq_true rfl, Nat.le_of_ble_eq_true rfl⟩ rfl rfl (Nat.le_of_ble_eq_true rfl) dL_law_294 ?_
              refine g_pop C dL_law_297 rfl ?_
              refine g_aload_n C dL_law_298 rfl 2 rfl ?_
              obtain ⟨r53, σ54, h55, hf⟩ := obp_e hf
              refine g_callVi (As := []) (rest := []) C (a_98 ad cy _) rfl (c_X11_fault l dC dI ad cy ) h55 hM_L_33 cal_X11_fault ⟨Nat.le_of_ble_eq_true rfl, Nat.le_of_ble_eq_true rfl⟩ ⟨rfl, rfl⟩ ⟨Nat.le_of_ble_eq_true rfl, Nat.le_of_ble_eq_true rfl⟩ rfl rfl (Nat.le_of_ble_eq_true rfl) dL_law_299 ?_
              refine g_pop C dL_law_302 rfl ?_
              refine g_goto (tgt := 1363) C dL_law_303 (by decide) ?_
              obtain ⟨v56, ev56, hf⟩ := ol_e hf
              refine g_iinc (j := 3) (w := 5) (lv2 := [(0, .ref b), (1, .ref (ad 0)), (2, .ref (ad 98)), (3, .int v56)]) C dL_law_1363 rfl (by decide) ev56 (by decide) [1, 2, 3, 0] rfl ?_
              refine g_goto (tgt := 18) C dL_law_1366 (by decide) ?_
              exact g_sub [0, 1, 2, 3] rfl (hs_18 σ54 v56 hf)
            · skip
              rcases oi_e hf with ⟨c57, hf⟩ | ⟨c57, hf⟩
              · refine g_tin (tgt := 306) C dL_law_32 (by rw [c57]; decide) (by rw [c57]; decide) (by rw [c57]; rfl) (by decide) ?_
                refine g_aload_n C dL_law_306 rfl 1 rfl ?_
                refine g_aload_n C dL_law_307 rfl 0 rfl ?_
                refine g_iload_n C dL_law_308 rfl 3 rfl ?_
                refine g_iconst (v := 1) C dL_law_309 (by decide) ?_
                refine g_iadd C dL_law_310 ?_
                obtain ⟨v58, ev58, hf⟩ := ol_e hf
                refine g_nm ev58 ?_
                obtain ⟨h59, hf⟩ := og_e hf
                refine g_sld C hX hbl hbA h59 dL_law_311 ?_
                obtain ⟨v60, ev60, hf⟩ := ol_e hf
                refine g_nm ev60 ?_
                obtain ⟨r61, σ62, h63, hf⟩ := obp_e hf
                refine g_callVi (As := [.int v60]) (rest := []) C (a_0 ad cy _) rfl (c_X10_rule l dC dI ad cy v60) h63 hM_L_34 cal_X10_rule ⟨Nat.le_of_ble_eq_true rfl, Nat.le_of_ble_eq_true rfl⟩ ⟨rfl, rfl⟩ ⟨Nat.le_of_ble_eq_true rfl, Nat.le_of_ble_eq_true rfl⟩ rfl rfl (Nat.le_of_ble_eq_true rfl) dL_law_312 ?_
                refine g_pop C dL_law_315 rfl ?_
                refine g_aload_n C dL_law_316 rfl 2 rfl ?_
                refine g_aload_n C dL_law_317 rfl 0 rfl ?_
                refine g_iload_n C dL_law_318 rfl 3 rfl ?_
                refine g_iconst (v := 1) C dL_law_319 (by decide) ?_
                refine g_iadd C dL_law_320 ?_
                obtain ⟨v64, ev64, hf⟩ := ol_e hf
                refine g_nm ev64 ?_
                obtain ⟨h65, hf⟩ := og_e hf
                refine g_sld C hX hbl hbA h65 dL_law_321 ?_
                obtain ⟨v66, ev66, hf⟩ := ol_e hf
                refine g_nm ev66 ?_
                obtain ⟨r67, σ68, h69, hf⟩ := obp_e hf
                refine g_callVi (As := [.int v66]) (rest := []) C (a_98 ad cy _) rfl (c_X11_rule l dC dI ad cy v66) h69 hM_L_37 cal_X11_rule ⟨Nat.le_of_ble_eq_true rfl, Nat.le_of_ble_eq_true rfl⟩ ⟨rfl, rfl⟩ ⟨Nat.le_of_ble_eq_true rfl, Nat.le_of_ble_eq_true rfl⟩ rfl rfl (Nat.le_of_ble_eq_true rfl) dL_law_322 ?_
                refine g_pop C dL_law_325 rfl ?_
                refine g_goto (tgt := 1363) C dL_law_326 (by decide) ?_
                obtain ⟨v70, ev70, hf⟩ := ol_e hf
                refine g_iinc (j := 3) (w := 5) (lv2 := [(0, .ref b), (1, .ref (ad 0)), (2, .ref (ad 98)), (3, .int v70)]) C dL_law_1363 rfl (by decide) ev70 (by decide) [1, 2, 3, 0] rfl ?_
                refine g_goto (tgt := 18) C dL_law_1366 (by decide) ?_
                exact g_sub [0, 1, 2, 3] rfl (hs_18 σ68 v70 hf)
              · skip
                rcases oi_e hf with ⟨c71, hf⟩ | ⟨c71, hf⟩
                · refine g_tin (tgt := 329) C dL_law_32 (by rw [c71]; decide) (by rw [c71]; decide) (by rw [c71]; rfl) (by decide) ?_
                  refine g_aload_n C dL_law_329 rfl 1 rfl ?_
                  refine g_aload_n C dL_law_330 rfl 0 rfl ?_
                  refine g_iload_n C dL_law_331 rfl 3 rfl ?_
                  refine g_iconst (v := 1) C dL_law_332 (by decide) ?_
                  refine g_iadd C dL_law_333 ?_
                  obtain ⟨v72, ev72, hf⟩ := ol_e hf
                  refine g_nm ev72 ?_
                  obtain ⟨h73, hf⟩ := og_e hf
                  refine g_sld C hX hbl hbA h73 dL_law_334 ?_
                  obtain ⟨v74, ev74, hf⟩ := ol_e hf
                  refine g_nm ev74 ?_
                  refine g_aload_n C dL_law_335 rfl 0 rfl ?_
                  refine g_iload_n C dL_law_336 rfl 3 rfl ?_
                  refine g_iconst (v := 2) C dL_law_337 (by decide) ?_
                  refine g_iadd C dL_law_338 ?_
                  obtain ⟨v75, ev75, hf⟩ := ol_e hf
                  refine g_nm ev75 ?_
                  obtain ⟨h76, hf⟩ := og_e hf
                  refine g_sld C hX hbl hbA h76 dL_law_339 ?_
                  obtain ⟨v77, ev77, hf⟩ := ol_e hf
                  refine g_nm ev77 ?_
                  obtain ⟨r78, σ79, h80, hf⟩ := obp_e hf
                  refine g_callVi (As := [.int v74, .int v77]) (rest := []) C (a_0 ad cy _) rfl (c_X10_bell l dC dI ad cy v74 v77) h80 hM_L_38 cal_X10_bell ⟨Nat.le_of_ble_eq_true rfl, Nat.le_of_ble_eq_true rfl⟩ ⟨rfl, rfl⟩ ⟨Nat.le_of_ble_eq_true rfl, Nat.le_of_ble_eq_true rfl⟩ rfl rfl (Nat.le_of_ble_eq_true rfl) dL_law_340 ?_
                  refine g_pop C dL_law_343 rfl ?_
                  refine g_aload_n C dL_law_344 rfl 2 rfl ?_
                  refine g_aload_n C dL_law_345 rfl 0 rfl ?_
                  refine g_iload_n C dL_law_346 rfl 3 rfl ?_
                  refine g_iconst (v := 1) C dL_law_347 (by decide) ?_
                  refine g_iadd C dL_law_348 ?_
                  obtain ⟨v81, ev81, hf⟩ := ol_e hf
                  refine g_nm ev81 ?_
                  obtain ⟨h82, hf⟩ := og_e hf
                  refine g_sld C hX hbl hbA h82 dL_law_349 ?_
                  obtain ⟨v83, ev83, hf⟩ := ol_e hf
                  refine g_nm ev83 ?_
                  refine g_aload_n C dL_law_350 rfl 0 rfl ?_
                  refine g_iload_n C dL_law_351 rfl 3 rfl ?_
                  refine g_iconst (v := 2) C dL_law_352 (by decide) ?_
                  refine g_iadd C dL_law_353 ?_
                  obtain ⟨v84, ev84, hf⟩ := ol_e hf
                  refine g_nm ev84 ?_
                  obtain ⟨h85, hf⟩ := og_e hf
                  refine g_sld C hX hbl hbA h85 dL_law_354 ?_
                  obtain ⟨v86, ev86, hf⟩ := ol_e hf
                  refine g_nm ev86 ?_
                  obtain ⟨r87, σ88, h89, hf⟩ := obp_e hf
                  refine g_callVi (As := [.int v83, .int v86]) (rest := []) C (a_98 ad cy _) rfl (c_X11_bell l dC dI ad cy v83 v86) h89 hM_L_42 cal_X11_bell ⟨Nat.le_of_ble_eq_true rfl, Nat.le_of_ble_eq_true rfl⟩ ⟨rfl, rfl⟩ ⟨Nat.le_of_ble_eq_true rfl, Nat.le_of_ble_eq_true rfl⟩ rfl rfl (Nat.le_of_ble_eq_true rfl) dL_law_355 ?_
                  refine g_pop C dL_law_358 rfl ?_
                  refine g_goto (tgt := 1363) C dL_law_359 (by decide) ?_
                  obtain ⟨v90, ev90, hf⟩ := ol_e hf
                  refine g_iinc (j := 3) (w := 5) (lv2 := [(0, .ref b), (1, .ref (ad 0)), (2, .ref (ad 98)), (3, .int v90)]) C dL_law_1363 rfl (by decide) ev90 (by decide) [1, 2, 3, 0] rfl ?_
                  refine g_goto (tgt := 18) C dL_law_1366 (by decide) ?_
                  exact g_sub [0, 1, 2, 3] rfl (hs_18 σ88 v90 hf)
                · skip
                  rcases oi_e hf with ⟨c91, hf⟩ | ⟨c91, hf⟩
                  · refine g_tin (tgt := 362) C dL_law_32 (by rw [c91]; decide) (by rw [c91]; decide) (by rw [c91]; rfl) (by decide) ?_
                    refine g_aload_n C dL_law_362 rfl 1 rfl ?_
                    refine g_aload_n C dL_law_363 rfl 0 rfl ?_
                    refine g_iload_n C dL_law_364 rfl 3 rfl ?_
                    refine g_iconst (v := 1) C dL_law_365 (by decide) ?_
                    refine g_iadd C dL_law_366 ?_
                    obtain ⟨v92, ev92, hf⟩ := ol_e hf
                    refine g_nm ev92 ?_
                    obtain ⟨h93, hf⟩ := og_e hf
                    refine g_sld C hX hbl hbA h93 dL_law_367 ?_
                    obtain ⟨v94, ev94, hf⟩ := ol_e hf
                    refine g_nm ev94 ?_
                    refine g_aload_n C dL_law_368 rfl 0 rfl ?_
                    refine g_iload_n C dL_law_369 rfl 3 rfl ?_
                    refine g_iconst (v := 2) C dL_law_370 (by decide) ?_
                    refine g_iadd C dL_law_371 ?_
                    obtain ⟨v95, ev95, hf⟩ := ol_e hf
                    refine g_nm ev95 ?_
                    obtain ⟨h96, hf⟩ := og_e hf
                    refine g_sld C hX hbl hbA h96 dL_law_372 ?_
                    obtain ⟨v97, ev97, hf⟩ := ol_e hf
                    refine g_nm ev97 ?_
                    obtain ⟨r98, σ99, h100, hf⟩ := obp_e hf
                    refine g_callVi (As := [.int v94, .int v97]) (rest := []) C (a_0 ad cy _) rfl (c_X10_tune l dC dI ad cy v94 v97) h100 hM_L_43 cal_X10_tune ⟨Nat.le_of_ble_eq_true rfl, Nat.le_of_ble_eq_true rfl⟩ ⟨rfl, rfl⟩ ⟨Nat.le_of_ble_eq_true rfl, Nat.le_of_ble_eq_true rfl⟩ rfl rfl (Nat.le_of_ble_eq_true rfl) dL_law_373 ?_
                    refine g_pop C dL_law_376 rfl ?_
                    refine g_aload_n C dL_law_377 rfl 2 rfl ?_
                    refine g_aload_n C dL_law_378 rfl 0 rfl ?_
                    refine g_iload_n C dL_law_379 rfl 3 rfl ?_
                    refine g_iconst (v := 1) C dL_law_380 (by decide) ?_
                    refine g_iadd C dL_law_381 ?_
                    obtain ⟨v101, ev101, hf⟩ := ol_e hf
                    refine g_nm ev101 ?_
                    obtain ⟨h102, hf⟩ := og_e hf
                    refine g_sld C hX hbl hbA h102 dL_law_382 ?_
                    obtain ⟨v103, ev103, hf⟩ := ol_e hf
                    refine g_nm ev103 ?_
                    refine g_aload_n C dL_law_383 rfl 0 rfl ?_
                    refine g_iload_n C dL_law_384 rfl 3 rfl ?_
                    refine g_iconst (v := 2) C dL_law_385 (by decide) ?_
                    refine g_iadd C dL_law_386 ?_
                    obtain ⟨v104, ev104, hf⟩ := ol_e hf
                    refine g_nm ev104 ?_
                    obtain ⟨h105, hf⟩ := og_e hf
                    refine g_sld C hX hbl hbA h105 dL_law_387 ?_
                    obtain ⟨v106, ev106, hf⟩ := ol_e hf
                    refine g_nm ev106 ?_
                    obtain ⟨r107, σ108, h109, hf⟩ := obp_e hf
                    refine g_callVi (As := [.int v103, .int v106]) (rest := []) C (a_98 ad cy _) rfl (c_X11_tune l dC dI ad cy v103 v106) h109 hM_L_46 cal_X11_tune ⟨Nat.le_of_ble_eq_true rfl, Nat.le_of_ble_eq_true rfl⟩ ⟨rfl, rfl⟩ ⟨Nat.le_of_ble_eq_true rfl, Nat.le_of_ble_eq_true rfl⟩ rfl rfl (Nat.le_of_ble_eq_true rfl) dL_law_388 ?_
                    refine g_pop C dL_law_391 rfl ?_
                    refine g_goto (tgt := 1363) C dL_law_392 (by decide) ?_
                    obtain ⟨v110, ev110, hf⟩ := ol_e hf
                    refine g_iinc (j := 3) (w := 5) (lv2 := [(0, .ref b), (1, .ref (ad 0)), (2, .ref (ad 98)), (3, .int v110)]) C dL_law_1363 rfl (by decide) ev110 (by decide) [1, 2, 3, 0] rfl ?_
                    refine g_goto (tgt := 18) C dL_law_1366 (by decide) ?_
                    exact g_sub [0, 1, 2, 3] rfl (hs_18 σ108 v110 hf)
                  · skip
                    rcases oi_e hf with ⟨c111, hf⟩ | ⟨c111, hf⟩
                    · refine g_tin (tgt := 395) C dL_law_32 (by rw [c111]; decide) (by rw [c111]; decide) (by rw [c111]; rfl) (by decide) ?_
                      refine g_aload_n C dL_law_395 rfl 1 rfl ?_
                      refine g_aload_n C dL_law_396 rfl 0 rfl ?_
                      refine g_iload_n C dL_law_397 rfl 3 rfl ?_
                      refine g_iconst (v := 1) C dL_law_398 (by decide) ?_
                      refine g_iadd C dL_law_399 ?_
                      obtain ⟨v112, ev112, hf⟩ := ol_e hf
                      refine g_nm ev112 ?_
                      obtain ⟨h113, hf⟩ := og_e hf
                      refine g_sld C hX hbl hbA h113 dL_law_400 ?_
                      obtain ⟨v114, ev114, hf⟩ := ol_e hf
                      refine g_nm ev114 ?_
                      obtain ⟨r115, σ116, h117, hf⟩ := obp_e hf
                      refine g_callVi (As := [.int v114]) (rest := []) C (a_0 ad cy _) rfl (c_X10_feuds l dC dI ad cy v114) h117 hM_L_47 cal_X10_feuds ⟨Nat.le_of_ble_eq_true rfl, Nat.le_of_ble_eq_true rfl⟩ ⟨rfl, rfl⟩ ⟨Nat.le_of_ble_eq_true rfl, Nat.le_of_ble_eq_true rfl⟩ rfl rfl (Nat.le_of_ble_eq_true rfl) dL_law_401 ?_
                      refine g_pop C dL_law_404 rfl ?_
                      refine g_aload_n C dL_law_405 rfl 2 rfl ?_
                      refine g_aload_n C dL_law_406 rfl 0 rfl ?_
                      refine g_iload_n C dL_law_407 rfl 3 rfl ?_
                      refine g_iconst (v := 1) C dL_law_408 (by decide) ?_
                      refine g_iadd C dL_law_409 ?_
                      obtain ⟨v118, ev118, hf⟩ := ol_e hf
                      refine g_nm ev118 ?_
                      obtain ⟨h119, hf⟩ := og_e hf
                      refine g_sld C hX hbl hbA h119 dL_law_410 ?_
                      obtain ⟨v120, ev120, hf⟩ := ol_e hf
                      refine g_nm ev120 ?_
                      obtain ⟨r121, σ122, h123, hf⟩ := obp_e hf
                      refine g_callVi (As := [.int v120]) (rest := []) C (a_98 ad cy _) rfl (c_X11_feuds l dC dI ad cy v120) h123 hM_L_50 cal_X11_feuds ⟨Nat.le_of_ble_eq_true rfl, Nat.le_of_ble_eq_true rfl⟩ ⟨rfl, rfl⟩ ⟨Nat.le_of_ble_eq_true rfl, Nat.le_of_ble_eq_true rfl⟩ rfl rfl (Nat.le_of_ble_eq_true rfl) dL_law_411 ?_
                      refine g_pop C dL_law_414 rfl ?_
                      refine g_goto (tgt := 1363) C dL_law_415 (by decide) ?_
                      obtain ⟨v124, ev124, hf⟩ := ol_e hf
                      refine g_iinc (j := 3) (w := 5) (lv2 := [(0, .ref b), (1, .ref (ad 0)), (2, .ref (ad 98)), (3, .int v124)]) C dL_law_1363 rfl (by decide) ev124 (by decide) [1, 2, 3, 0] rfl ?_
                      refine g_goto (tgt := 18) C dL_law_1366 (by decide) ?_
                      exact g_sub [0, 1, 2, 3] rfl (hs_18 σ122 v124 hf)
                    · skip
                      rcases oi_e hf with ⟨c125, hf⟩ | ⟨c125, hf⟩
                      · refine g_tin (tgt := 418) C dL_law_32 (by rw [c125]; decide) (by rw [c125]; decide) (by rw [c125]; rfl) (by decide) ?_
                        refine g_aload_n C dL_law_418 rfl 1 rfl ?_
                        refine g_aload_n C dL_law_419 rfl 0 rfl ?_
                        refine g_iload_n C dL_law_420 rfl 3 rfl ?_
                        refine g_iconst (v := 1) C dL_law_421 (by decide) ?_
                        refine g_iadd C dL_law_422 ?_
                        obtain ⟨v126, ev126, hf⟩ := ol_e hf
                        refine g_nm ev126 ?_
                        obtain ⟨h127, hf⟩ := og_e hf
                        refine g_sld C hX hbl hbA h127 dL_law_423 ?_
                        obtain ⟨v128, ev128, hf⟩ := ol_e hf
                        refine g_nm ev128 ?_
                        refine g_aload_n C dL_law_424 rfl 0 rfl ?_
                        refine g_iload_n C dL_law_425 rfl 3 rfl ?_
                        refine g_iconst (v := 2) C dL_law_426 (by decide) ?_
                        refine g_iadd C dL_law_427 ?_
                        obtain ⟨v129, ev129, hf⟩ := ol_e hf
                        refine g_nm ev129 ?_
                        obtain ⟨h130, hf⟩ := og_e hf
                        refine g_sld C hX hbl hbA h130 dL_law_428 ?_
                        obtain ⟨v131, ev131, hf⟩ := ol_e hf
                        refine g_nm ev131 ?_
                        obtain ⟨r132, σ133, h134, hf⟩ := obp_e hf
                        refine g_callVi (As := [.int v128, .int v131]) (rest := []) C (a_0 ad cy _) rfl (c_X10_fee l dC dI ad cy v128 v131) h134 hM_L_51 cal_X10_fee ⟨Nat.le_of_ble_eq_true rfl, Nat.le_of_ble_eq_true rfl⟩ ⟨rfl, rfl⟩ ⟨Nat.le_of_ble_eq_true rfl, Nat.le_of_ble_eq_true rfl⟩ rfl rfl (Nat.le_of_ble_eq_true rfl) dL_law_429 ?_
                        refine g_pop C dL_law_432 rfl ?_
                        refine g_aload_n C dL_law_433 rfl 2 rfl ?_
                        refine g_aload_n C dL_law_434 rfl 0 rfl ?_
                        refine g_iload_n C dL_law_435 rfl 3 rfl ?_
                        refine g_iconst (v := 1) C dL_law_436 (by decide) ?_
                        refine g_iadd C dL_law_437 ?_
                        obtain ⟨v135, ev135, hf⟩ := ol_e hf
                        refine g_nm ev135 ?_
                        obtain ⟨h136, hf⟩ := og_e hf
                        refine g_sld C hX hbl hbA h136 dL_law_438 ?_
                        obtain ⟨v137, ev137, hf⟩ := ol_e hf
                        refine g_nm ev137 ?_
                        refine g_aload_n C dL_law_439 rfl 0 rfl ?_
                        refine g_iload_n C dL_law_440 rfl 3 rfl ?_
                        refine g_iconst (v := 2) C dL_law_441 (by decide) ?_
                        refine g_iadd C dL_law_442 ?_
                        obtain ⟨v138, ev138, hf⟩ := ol_e hf
                        refine g_nm ev138 ?_
                        obtain ⟨h139, hf⟩ := og_e hf
                        refine g_sld C hX hbl hbA h139 dL_law_443 ?_
                        obtain ⟨v140, ev140, hf⟩ := ol_e hf
                        refine g_nm ev140 ?_
                        obtain ⟨r141, σ142, h143, hf⟩ := obp_e hf
                        refine g_callVi (As := [.int v137, .int v140]) (rest := []) C (a_98 ad cy _) rfl (c_X11_fee l dC dI ad cy v137 v140) h143 hM_L_54 cal_X11_fee ⟨Nat.le_of_ble_eq_true rfl, Nat.le_of_ble_eq_true rfl⟩ ⟨rfl, rfl⟩ ⟨Nat.le_of_ble_eq_true rfl, Nat.le_of_ble_eq_true rfl⟩ rfl rfl (Nat.le_of_ble_eq_true rfl) dL_law_444 ?_
                        refine g_pop C dL_law_447 rfl ?_
                        refine g_goto (tgt := 1363) C dL_law_448 (by decide) ?_
                        obtain ⟨v144, ev144, hf⟩ := ol_e hf
                        refine g_iinc (j := 3) (w := 5) (lv2 := [(0, .ref b), (1, .ref (ad 0)), (2, .ref (ad 98)), (3, .int v144)]) C dL_law_1363 rfl (by decide) ev144 (by decide) [1, 2, 3, 0] rfl ?_
                        refine g_goto (tgt := 18) C dL_law_1366 (by decide) ?_
                        exact g_sub [0, 1, 2, 3] rfl (hs_18 σ142 v144 hf)
                      · skip
                        rcases oi_e hf with ⟨c145, hf⟩ | ⟨c145, hf⟩
                        · refine g_tin (tgt := 451) C dL_law_32 (by rw [c145]; decide) (by rw [c145]; decide) (by rw [c145]; rfl) (by decide) ?_
                          refine g_aload_n C dL_law_451 rfl 1 rfl ?_
                          refine g_aload_n C dL_law_452 rfl 0 rfl ?_
                          refine g_iload_n C dL_law_453 rfl 3 rfl ?_
                          refine g_iconst (v := 1) C dL_law_454 (by decide) ?_
                          refine g_iadd C dL_law_455 ?_
                          obtain ⟨v146, ev146, hf⟩ := ol_e hf
                          refine g_nm ev146 ?_
                          obtain ⟨h147, hf⟩ := og_e hf
                          refine g_sld C hX hbl hbA h147 dL_law_456 ?_
                          obtain ⟨v148, ev148, hf⟩ := ol_e hf
                          refine g_nm ev148 ?_
                          refine g_aload_n C dL_law_457 rfl 0 rfl ?_
                          refine g_iload_n C dL_law_458 rfl 3 rfl ?_
                          refine g_iconst (v := 2) C dL_law_459 (by decide) ?_
                          refine g_iadd C dL_law_460 ?_
                          obtain ⟨v149, ev149, hf⟩ := ol_e hf
                          refine g_nm ev149 ?_
                          obtain ⟨h150, hf⟩ := og_e hf
                          refine g_sld C hX hbl hbA h150 dL_law_461 ?_
                          obtain ⟨v151, ev151, hf⟩ := ol_e hf
                          refine g_nm ev151 ?_
                          rcases oi_e hf with ⟨c152, hf⟩ | ⟨c152, hf⟩
                          · refine g_if_eq_t (tgt := 469) C dL_law_462 (by decide) c152 ?_
                            refine g_iconst (v := 0) C dL_law_469 (by decide) ?_
                            obtain ⟨r153, σ154, h155, hf⟩ := obp_e hf
                            refine g_callVi (As := [.int v148, .int 0]) (rest := []) C (a_0 ad cy _) rfl (c_X10_shut l dC dI ad cy v148 ((0 : Int32))) h155 hM_L_55 cal_X10_shut ⟨Nat.le_of_ble_eq_true rfl, Nat.le_of_ble_eq_true rfl⟩ ⟨rfl, rfl⟩ ⟨Nat.le_of_ble_eq_true rfl, Nat.le_of_ble_eq_true rfl⟩ rfl rfl (Nat.le_of_ble_eq_true rfl) dL_law_470 ?_
                            refine g_pop C dL_law_473 rfl ?_
                            refine g_aload_n C dL_law_474 rfl 2 rfl ?_
                            refine g_aload_n C dL_law_475 rfl 0 rfl ?_
                            refine g_iload_n C dL_law_476 rfl 3 rfl ?_
                            refine g_iconst (v := 1) C dL_law_477 (by decide) ?_
                            refine g_iadd C dL_law_478 ?_
                            obtain ⟨v156, ev156, hf⟩ := ol_e hf
                            refine g_nm ev156 ?_
                            obtain ⟨h157, hf⟩ := og_e hf
                            refine g_sld C hX hbl hbA h157 dL_law_479 ?_
                            obtain ⟨v158, ev158, hf⟩ := ol_e hf
                            refine g_nm ev158 ?_
                            refine g_aload_n C dL_law_480 rfl 0 rfl ?_
                            refine g_iload_n C dL_law_481 rfl 3 rfl ?_
                            refine g_iconst (v := 2) C dL_law_482 (by decide) ?_
                            refine g_iadd C dL_law_483 ?_
                            obtain ⟨v159, ev159, hf⟩ := ol_e hf
                            refine g_nm ev159 ?_
                            obtain ⟨h160, hf⟩ := og_e hf
                            refine g_sld C hX hbl hbA h160 dL_law_484 ?_
                            obtain ⟨v161, ev161, hf⟩ := ol_e hf
                            refine g_nm ev161 ?_
                            rcases oi_e hf with ⟨c162, hf⟩ | ⟨c162, hf⟩
                            · refine g_if_eq_t (tgt := 492) C dL_law_485 (by decide) c162 ?_
                              refine g_iconst (v := 0) C dL_law_492 (by decide) ?_
                              obtain ⟨r163, σ164, h165, hf⟩ := obp_e hf
                              refine g_callVi (As := [.int v158, .int 0]) (rest := []) C (a_98 ad cy _) rfl (c_X11_shut l dC dI ad cy v158 ((0 : Int32))) h165 hM_L_59 cal_X11_shut ⟨Nat.le_of_ble_eq_true rfl, Nat.le_of_ble_eq_true rfl⟩ ⟨rfl, rfl⟩ ⟨Nat.le_of_ble_eq_true rfl, Nat.le_of_ble_eq_true rfl⟩ rfl rfl (Nat.le_of_ble_eq_true rfl) dL_law_493 ?_
                              refine g_pop C dL_law_496 rfl ?_
                              refine g_goto (tgt := 1363) C dL_law_497 (by decide) ?_
                              obtain ⟨v166, ev166, hf⟩ := ol_e hf
                              refine g_iinc (j := 3) (w := 5) (lv2 := [(0, .ref b), (1, .ref (ad 0)), (2, .ref (ad 98)), (3, .int v166)]) C dL_law_1363 rfl (by decide) ev166 (by decide) [1, 2, 3, 0] rfl ?_
                              refine g_goto (tgt := 18) C dL_law_1366 (by decide) ?_
                              exact g_sub [0, 1, 2, 3] rfl (hs_18 σ164 v166 hf)
                            · refine g_if_eq_f (tgt := 492) C dL_law_485 (by decide) c162 ?_
                              refine g_iconst (v := 1) C dL_law_488 (by decide) ?_
                              refine g_goto (tgt := 493) C dL_law_489 (by decide) ?_
                              obtain ⟨r167, σ168, h169, hf⟩ := obp_e hf
                              refine g_callVi (As := [.int v158, .int 1]) (rest := []) C (a_98 ad cy _) rfl (c_X11_shut l dC dI ad cy v158 ((1 : Int32))) h169 hM_L_59 cal_X11_shut ⟨Nat.le_of_ble_eq_true rfl, Nat.le_of_ble_eq_true rfl⟩ ⟨rfl, rfl⟩ ⟨Nat.le_of_ble_eq_true rfl, Nat.le_of_ble_eq_true rfl⟩ rfl rfl (Nat.le_of_ble_eq_true rfl) dL_law_493 ?_
                              refine g_pop C dL_law_496 rfl ?_
                              refine g_goto (tgt := 1363) C dL_law_497 (by decide) ?_
                              obtain ⟨v170, ev170, hf⟩ := ol_e hf
                              refine g_iinc (j := 3) (w := 5) (lv2 := [(0, .ref b), (1, .ref (ad 0)), (2, .ref (ad 98)), (3, .int v170)]) C dL_law_1363 rfl (by decide) ev170 (by decide) [1, 2, 3, 0] rfl ?_
                              refine g_goto (tgt := 18) C dL_law_1366 (by decide) ?_
                              exact g_sub [0, 1, 2, 3] rfl (hs_18 σ168 v170 hf)
                          · refine g_if_eq_f (tgt := 469) C dL_law_462 (by decide) c152 ?_
                            refine g_iconst (v := 1) C dL_law_465 (by decide) ?_
                            refine g_goto (tgt := 470) C dL_law_466 (by decide) ?_
                            obtain ⟨r171, σ172, h173, hf⟩ := obp_e hf
                            refine g_callVi (As := [.int v148, .int 1]) (rest := []) C (a_0 ad cy _) rfl (c_X10_shut l dC dI ad cy v148 ((1 : Int32))) h173 hM_L_55 cal_X10_shut ⟨Nat.le_of_ble_eq_true rfl, Nat.le_of_ble_eq_true rfl⟩ ⟨rfl, rfl⟩ ⟨Nat.le_of_ble_eq_true rfl, Nat.le_of_ble_eq_true rfl⟩ rfl rfl (Nat.le_of_ble_eq_true rfl) dL_law_470 ?_
                            refine g_pop C dL_law_473 rfl ?_
                            refine g_aload_n C dL_law_474 rfl 2 rfl ?_
                            refine g_aload_n C dL_law_475 rfl 0 rfl ?_
                            refine g_iload_n C dL_law_476 rfl 3 rfl ?_
                            refine g_iconst (v := 1) C dL_law_477 (by decide) ?_
                            refine g_iadd C dL_law_478 ?_
                            obtain ⟨v174, ev174, hf⟩ := ol_e hf
                            refine g_nm ev174 ?_
                            obtain ⟨h175, hf⟩ := og_e hf
                            refine g_sld C hX hbl hbA h175 dL_law_479 ?_
                            obtain ⟨v176, ev176, hf⟩ := ol_e hf
                            refine g_nm ev176 ?_
                            refine g_aload_n C dL_law_480 rfl 0 rfl ?_
                            refine g_iload_n C dL_law_481 rfl 3 rfl ?_
                            refine g_iconst (v := 2) C dL_law_482 (by decide) ?_
                            refine g_iadd C dL_law_483 ?_
                            obtain ⟨v177, ev177, hf⟩ := ol_e hf
                            refine g_nm ev177 ?_
                            obtain ⟨h178, hf⟩ := og_e hf
                            refine g_sld C hX hbl hbA h178 dL_law_484 ?_
                            obtain ⟨v179, ev179, hf⟩ := ol_e hf
                            refine g_nm ev179 ?_
                            rcases oi_e hf with ⟨c180, hf⟩ | ⟨c180, hf⟩
                            · refine g_if_eq_t (tgt := 492) C dL_law_485 (by decide) c180 ?_
                              refine g_iconst (v := 0) C dL_law_492 (by decide) ?_
                              obtain ⟨r181, σ182, h183, hf⟩ := obp_e hf
                              refine g_callVi (As := [.int v176, .int 0]) (rest := []) C (a_98 ad cy _) rfl (c_X11_shut l dC dI ad cy v176 ((0 : Int32))) h183 hM_L_59 cal_X11_shut ⟨Nat.le_of_ble_eq_true rfl, Nat.le_of_ble_eq_true rfl⟩ ⟨rfl, rfl⟩ ⟨Nat.le_of_ble_eq_true rfl, Nat.le_of_ble_eq_true rfl⟩ rfl rfl (Nat.le_of_ble_eq_true rfl) dL_law_493 ?_
                              refine g_pop C dL_law_496 rfl ?_
                              refine g_goto (tgt := 1363) C dL_law_497 (by decide) ?_
                              obtain ⟨v184, ev184, hf⟩ := ol_e hf
                              refine g_iinc (j := 3) (w := 5) (lv2 := [(0, .ref b), (1, .ref (ad 0)), (2, .ref (ad 98)), (3, .int v184)]) C dL_law_1363 rfl (by decide) ev184 (by decide) [1, 2, 3, 0] rfl ?_
                              refine g_goto (tgt := 18) C dL_law_1366 (by decide) ?_
                              exact g_sub [0, 1, 2, 3] rfl (hs_18 σ182 v184 hf)
                            · refine g_if_eq_f (tgt := 492) C dL_law_485 (by decide) c180 ?_
                              refine g_iconst (v := 1) C dL_law_488 (by decide) ?_
                              refine g_goto (tgt := 493) C dL_law_489 (by decide) ?_
                              obtain ⟨r185, σ186, h187, hf⟩ := obp_e hf
                              refine g_callVi (As := [.int v176, .int 1]) (rest := []) C (a_98 ad cy _) rfl (c_X11_shut l dC dI ad cy v176 ((1 : Int32))) h187 hM_L_59 cal_X11_shut ⟨Nat.le_of_ble_eq_true rfl, Nat.le_of_ble_eq_true rfl⟩ ⟨rfl, rfl⟩ ⟨Nat.le_of_ble_eq_true rfl, Nat.le_of_ble_eq_true rfl⟩ rfl rfl (Nat.le_of_ble_eq_true rfl) dL_law_493 ?_
                              refine g_pop C dL_law_496 rfl ?_
                              refine g_goto (tgt := 1363) C dL_law_497 (by decide) ?_
                              obtain ⟨v188, ev188, hf⟩ := ol_e hf
                              refine g_iinc (j := 3) (w := 5) (lv2 := [(0, .ref b), (1, .ref (ad 0)), (2, .ref (ad 98)), (3, .int v188)]) C dL_law_1363 rfl (by decide) ev188 (by decide) [1, 2, 3, 0] rfl ?_
                              refine g_goto (tgt := 18) C dL_law_1366 (by decide) ?_
                              exact g_sub [0, 1, 2, 3] rfl (hs_18 σ186 v188 hf)
                        · skip
                          rcases oi_e hf with ⟨c189, hf⟩ | ⟨c189, hf⟩
                          · refine g_tin (tgt := 500) C dL_law_32 (by rw [c189]; decide) (by rw [c189]; decide) (by rw [c189]; rfl) (by decide) ?_
                            refine g_aload_n C dL_law_500 rfl 1 rfl ?_
                            refine g_aload_n C dL_law_501 rfl 0 rfl ?_
                            refine g_iload_n C dL_law_502 rfl 3 rfl ?_
                            refine g_iconst (v := 1) C dL_law_503 (by decide) ?_
                            refine g_iadd C dL_law_504 ?_
                            obtain ⟨v190, ev190, hf⟩ := ol_e hf
                            refine g_nm ev190 ?_
                            obtain ⟨h191, hf⟩ := og_e hf
                            refine g_sld C hX hbl hbA h191 dL_law_505 ?_
                            obtain ⟨v192, ev192, hf⟩ := ol_e hf
                            refine g_nm ev192 ?_
                            refine g_aload_n C dL_law_506 rfl 0 rfl ?_
                            refine g_iload_n C dL_law_507 rfl 3 rfl ?_
                            refine g_iconst (v := 2) C dL_law_508 (by decide) ?_
                            refine g_iadd C dL_law_509 ?_
                            obtain ⟨v193, ev193, hf⟩ := ol_e hf
                            refine g_nm ev193 ?_
                            obtain ⟨h194, hf⟩ := og_e hf
                            refine g_sld C hX hbl hbA h194 dL_law_510 ?_
                            obtain ⟨v195, ev195, hf⟩ := ol_e hf
                            refine g_nm ev195 ?_
                            obtain ⟨r196, σ197, h198, hf⟩ := obp_e hf
                            refine g_callVi (As := [.int v192, .int v195]) (rest := []) C (a_0 ad cy _) rfl (c_X10_sell l dC dI ad cy v192 v195) h198 hM_L_60 cal_X10_sell ⟨Nat.le_of_ble_eq_true rfl, Nat.le_of_ble_eq_true rfl⟩ ⟨rfl, rfl⟩ ⟨Nat.le_of_ble_eq_true rfl, Nat.le_of_ble_eq_true rfl⟩ rfl rfl (Nat.le_of_ble_eq_true rfl) dL_law_511 ?_
                            refine g_pop C dL_law_514 rfl ?_
                            refine g_aload_n C dL_law_515 rfl 2 rfl ?_
                            refine g_aload_n C dL_law_516 rfl 0 rfl ?_
                            refine g_iload_n C dL_law_517 rfl 3 rfl ?_
                            refine g_iconst (v := 1) C dL_law_518 (by decide) ?_
                            refine g_iadd C dL_law_519 ?_
                            obtain ⟨v199, ev199, hf⟩ := ol_e hf
                            refine g_nm ev199 ?_
                            obtain ⟨h200, hf⟩ := og_e hf
                            refine g_sld C hX hbl hbA h200 dL_law_520 ?_
                            obtain ⟨v201, ev201, hf⟩ := ol_e hf
                            refine g_nm ev201 ?_
                            refine g_aload_n C dL_law_521 rfl 0 rfl ?_
                            refine g_iload_n C dL_law_522 rfl 3 rfl ?_
                            refine g_iconst (v := 2) C dL_law_523 (by decide) ?_
                            refine g_iadd C dL_law_524 ?_
                            obtain ⟨v202, ev202, hf⟩ := ol_e hf
                            refine g_nm ev202 ?_
                            obtain ⟨h203, hf⟩ := og_e hf
                            refine g_sld C hX hbl hbA h203 dL_law_525 ?_
                            obtain ⟨v204, ev204, hf⟩ := ol_e hf
                            refine g_nm ev204 ?_
                            obtain ⟨r205, σ206, h207, hf⟩ := obp_e hf
                            refine g_callVi (As := [.int v201, .int v204]) (rest := []) C (a_98 ad cy _) rfl (c_X11_sell l dC dI ad cy v201 v204) h207 hM_L_63 cal_X11_sell ⟨Nat.le_of_ble_eq_true rfl, Nat.le_of_ble_eq_true rfl⟩ ⟨rfl, rfl⟩ ⟨Nat.le_of_ble_eq_true rfl, Nat.le_of_ble_eq_true rfl⟩ rfl rfl (Nat.le_of_ble_eq_true rfl) dL_law_526 ?_
                            refine g_pop C dL_law_529 rfl ?_
                            refine g_goto (tgt := 1363) C dL_law_530 (by decide) ?_
                            obtain ⟨v208, ev208, hf⟩ := ol_e hf
                            refine g_iinc (j := 3) (w := 5) (lv2 := [(0, .ref b), (1, .ref (ad 0)), (2, .ref (ad 98)), (3, .int v208)]) C dL_law_1363 rfl (by decide) ev208 (by decide) [1, 2, 3, 0] rfl ?_
                            refine g_goto (tgt := 18) C dL_law_1366 (by decide) ?_
                            exact g_sub [0, 1, 2, 3] rfl (hs_18 σ206 v208 hf)
                          · skip
                            rcases oi_e hf with ⟨c209, hf⟩ | ⟨c209, hf⟩
                            · refine g_tin (tgt := 533) C dL_law_32 (by rw [c209]; decide) (by rw [c209]; decide) (by rw [c209]; rfl) (by decide) ?_
                              refine g_aload_n C dL_law_533 rfl 1 rfl ?_
                              refine g_aload_n C dL_law_534 rfl 0 rfl ?_
                              refine g_iload_n C dL_law_535 rfl 3 rfl ?_
                              refine g_iconst (v := 1) C dL_law_536 (by decide) ?_
                              refine g_iadd C dL_law_537 ?_
                              obtain ⟨v210, ev210, hf⟩ := ol_e hf
                              refine g_nm ev210 ?_
                              obtain ⟨h211, hf⟩ := og_e hf
                              refine g_sld C hX hbl hbA h211 dL_law_538 ?_
                              obtain ⟨v212, ev212, hf⟩ := ol_e hf
                              refine g_nm ev212 ?_
                              refine g_aload_n C dL_law_539 rfl 0 rfl ?_
                              refine g_iload_n C dL_law_540 rfl 3 rfl ?_
                              refine g_iconst (v := 2) C dL_law_541 (by decide) ?_
                              refine g_iadd C dL_law_542 ?_
                              obtain ⟨v213, ev213, hf⟩ := ol_e hf
                              refine g_nm ev213 ?_
                              obtain ⟨h214, hf⟩ := og_e hf
                              refine g_sld C hX hbl hbA h214 dL_law_543 ?_
                              obtain ⟨v215, ev215, hf⟩ := ol_e hf
                              refine g_nm ev215 ?_
                              obtain ⟨r216, σ217, h218, hf⟩ := obp_e hf
                              refine g_callVi (As := [.int v212, .int v215]) (rest := []) C (a_0 ad cy _) rfl (c_X10_half l dC dI ad cy v212 v215) h218 hM_L_64 cal_X10_half ⟨Nat.le_of_ble_eq_true rfl, Nat.le_of_ble_eq_true rfl⟩ ⟨rfl, rfl⟩ ⟨Nat.le_of_ble_eq_true rfl, Nat.le_of_ble_eq_true rfl⟩ rfl rfl (Nat.le_of_ble_eq_true rfl) dL_law_544 ?_
                              refine g_pop C dL_law_547 rfl ?_
                              refine g_aload_n C dL_law_548 rfl 2 rfl ?_
                              refine g_aload_n C dL_law_549 rfl 0 rfl ?_
                              refine g_iload_n C dL_law_550 rfl 3 rfl ?_
                              refine g_iconst (v := 1) C dL_law_551 (by decide) ?_
                              refine g_iadd C dL_law_552 ?_
                              obtain ⟨v219, ev219, hf⟩ := ol_e hf
                              refine g_nm ev219 ?_
                              obtain ⟨h220, hf⟩ := og_e hf
                              refine g_sld C hX hbl hbA h220 dL_law_553 ?_
                              obtain ⟨v221, ev221, hf⟩ := ol_e hf
                              refine g_nm ev221 ?_
                              refine g_aload_n C dL_law_554 rfl 0 rfl ?_
                              refine g_iload_n C dL_law_555 rfl 3 rfl ?_
                              refine g_iconst (v := 2) C dL_law_556 (by decide) ?_
                              refine g_iadd C dL_law_557 ?_
                              obtain ⟨v222, ev222, hf⟩ := ol_e hf
                              refine g_nm ev222 ?_
                              obtain ⟨h223, hf⟩ := og_e hf
                              refine g_sld C hX hbl hbA h223 dL_law_558 ?_
                              obtain ⟨v224, ev224, hf⟩ := ol_e hf
                              refine g_nm ev224 ?_
                              obtain ⟨r225, σ226, h227, hf⟩ := obp_e hf
                              refine g_callVi (As := [.int v221, .int v224]) (rest := []) C (a_98 ad cy _) rfl (c_X11_half l dC dI ad cy v221 v224) h227 hM_L_67 cal_X11_half ⟨Nat.le_of_ble_eq_true rfl, Nat.le_of_ble_eq_true rfl⟩ ⟨rfl, rfl⟩ ⟨Nat.le_of_ble_eq_true rfl, Nat.le_of_ble_eq_true rfl⟩ rfl rfl (Nat.le_of_ble_eq_true rfl) dL_law_559 ?_
                              refine g_pop C dL_law_562 rfl ?_
                              refine g_goto (tgt := 1363) C dL_law_563 (by decide) ?_
                              obtain ⟨v228, ev228, hf⟩ := ol_e hf
                              refine g_iinc (j := 3) (w := 5) (lv2 := [(0, .ref b), (1, .ref (ad 0)), (2, .ref (ad 98)), (3, .int v228)]) C dL_law_1363 rfl (by decide) ev228 (by decide) [1, 2, 3, 0] rfl ?_
                              refine g_goto (tgt := 18) C dL_law_1366 (by decide) ?_
                              exact g_sub [0, 1, 2, 3] rfl (hs_18 σ226 v228 hf)
                            · skip
                              rcases oi_e hf with ⟨c229, hf⟩ | ⟨c229, hf⟩
                              · refine g_tin (tgt := 566) C dL_law_32 (by rw [c229]; decide) (by rw [c229]; decide) (by rw [c229]; rfl) (by decide) ?_
                                refine g_aload_n C dL_law_566 rfl 1 rfl ?_
                                refine g_aload_n C dL_law_567 rfl 0 rfl ?_
                                refine g_iload_n C dL_law_568 rfl 3 rfl ?_
                                refine g_iconst (v := 1) C dL_law_569 (by decide) ?_
                                refine g_iadd C dL_law_570 ?_
                                obtain ⟨v230, ev230, hf⟩ := ol_e hf
                                refine g_nm ev230 ?_
                                obtain ⟨h231, hf⟩ := og_e hf
                                refine g_sld C hX hbl hbA h231 dL_law_571 ?_
                                obtain ⟨v232, ev232, hf⟩ := ol_e hf
                                refine g_nm ev232 ?_
                                refine g_aload_n C dL_law_572 rfl 0 rfl ?_
                                refine g_iload_n C dL_law_573 rfl 3 rfl ?_
                                refine g_iconst (v := 2) C dL_law_574 (by decide) ?_
                                refine g_iadd C dL_law_575 ?_
                                obtain ⟨v233, ev233, hf⟩ := ol_e hf
                                refine g_nm ev233 ?_
                                obtain ⟨h234, hf⟩ := og_e hf
                                refine g_sld C hX hbl hbA h234 dL_law_576 ?_
                                obtain ⟨v235, ev235, hf⟩ := ol_e hf
                                refine g_nm ev235 ?_
                                refine g_aload_n C dL_law_577 rfl 0 rfl ?_
                                refine g_iload_n C dL_law_578 rfl 3 rfl ?_
                                refine g_iconst (v := 3) C dL_law_579 (by decide) ?_
                                refine g_iadd C dL_law_580 ?_
                                obtain ⟨v236, ev236, hf⟩ := ol_e hf
                                refine g_nm ev236 ?_
                                obtain ⟨h237, hf⟩ := og_e hf
                                refine g_sld C hX hbl hbA h237 dL_law_581 ?_
                                obtain ⟨v238, ev238, hf⟩ := ol_e hf
                                refine g_nm ev238 ?_
                                rcases oi_e hf with ⟨c239, hf⟩ | ⟨c239, hf⟩
                                · refine g_if_eq_t (tgt := 589) C dL_law_582 (by decide) c239 ?_
                                  refine g_iconst (v := 0) C dL_law_589 (by decide) ?_
                                  obtain ⟨r240, σ241, h242, hf⟩ := obp_e hf
                                  refine g_callVi (As := [.int v232, .int v235, .int 0]) (rest := []) C (a_0 ad cy _) rfl (c_X10_feud l dC dI ad cy v232 v235 ((0 : Int32))) h242 hM_L_68 cal_X10_feud ⟨Nat.le_of_ble_eq_true rfl, Nat.le_of_ble_eq_true rfl⟩ ⟨rfl, rfl⟩ ⟨Nat.le_of_ble_eq_true rfl, Nat.le_of_ble_eq_true rfl⟩ rfl rfl (Nat.le_of_ble_eq_true rfl) dL_law_590 ?_
                                  refine g_pop C dL_law_593 rfl ?_
                                  refine g_aload_n C dL_law_594 rfl 2 rfl ?_
                                  refine g_aload_n C dL_law_595 rfl 0 rfl ?_
                                  refine g_iload_n C dL_law_596 rfl 3 rfl ?_
                                  refine g_iconst (v := 1) C dL_law_597 (by decide) ?_
                                  refine g_iadd C dL_law_598 ?_
                                  obtain ⟨v243, ev243, hf⟩ := ol_e hf
                                  refine g_nm ev243 ?_
                                  obtain ⟨h244, hf⟩ := og_e hf
                                  refine g_sld C hX hbl hbA h244 dL_law_599 ?_
                                  obtain ⟨v245, ev245, hf⟩ := ol_e hf
                                  refine g_nm ev245 ?_
                                  refine g_aload_n C dL_law_600 rfl 0 rfl ?_
                                  refine g_iload_n C dL_law_601 rfl 3 rfl ?_
                                  refine g_iconst (v := 2) C dL_law_602 (by decide) ?_
                                  refine g_iadd C dL_law_603 ?_
                                  obtain ⟨v246, ev246, hf⟩ := ol_e hf
                                  refine g_nm ev246 ?_
                                  obtain ⟨h247, hf⟩ := og_e hf
                                  refine g_sld C hX hbl hbA h247 dL_law_604 ?_
                                  obtain ⟨v248, ev248, hf⟩ := ol_e hf
                                  refine g_nm ev248 ?_
                                  refine g_aload_n C dL_law_605 rfl 0 rfl ?_
                                  refine g_iload_n C dL_law_606 rfl 3 rfl ?_
                                  refine g_iconst (v := 3) C dL_law_607 (by decide) ?_
                                  refine g_iadd C dL_law_608 ?_
                                  obtain ⟨v249, ev249, hf⟩ := ol_e hf
                                  refine g_nm ev249 ?_
                                  obtain ⟨h250, hf⟩ := og_e hf
                                  refine g_sld C hX hbl hbA h250 dL_law_609 ?_
                                  obtain ⟨v251, ev251, hf⟩ := ol_e hf
                                  refine g_nm ev251 ?_
                                  rcases oi_e hf with ⟨c252, hf⟩ | ⟨c252, hf⟩
                                  · refine g_if_eq_t (tgt := 617) C dL_law_610 (by decide) c252 ?_
                                    refine g_iconst (v := 0) C dL_law_617 (by decide) ?_
                                    obtain ⟨r253, σ254, h255, hf⟩ := obp_e hf
                                    refine g_callVi (As := [.int v245, .int v248, .int 0]) (rest := []) C (a_98 ad cy _) rfl (c_X11_feud l dC dI ad cy v245 v248 ((0 : Int32))) h255 hM_L_72 cal_X11_feud ⟨Nat.le_of_ble_eq_true rfl, Nat.le_of_ble_eq_true rfl⟩ ⟨rfl, rfl⟩ ⟨Nat.le_of_ble_eq_true rfl, Nat.le_of_ble_eq_true rfl⟩ rfl rfl (Nat.le_of_ble_eq_true rfl) dL_law_618 ?_
                                    refine g_pop C dL_law_621 rfl ?_
                                    refine g_goto (tgt := 1363) C dL_law_622 (by decide) ?_
                                    obtain ⟨v256, ev256, hf⟩ := ol_e hf
                                    refine g_iinc (j := 3) (w := 5) (lv2 := [(0, .ref b), (1, .ref (ad 0)), (2, .ref (ad 98)), (3, .int v256)]) C dL_law_1363 rfl (by decide) ev256 (by decide) [1, 2, 3, 0] rfl ?_
                                    refine g_goto (tgt := 18) C dL_law_1366 (by decide) ?_
                                    exact g_sub [0, 1, 2, 3] rfl (hs_18 σ254 v256 hf)
                                  · refine g_if_eq_f (tgt := 617) C dL_law_610 (by decide) c252 ?_
                                    refine g_iconst (v := 1) C dL_law_613 (by decide) ?_
                                    refine g_goto (tgt := 618) C dL_law_614 (by decide) ?_
                                    obtain ⟨r257, σ258, h259, hf⟩ := obp_e hf
                                    refine g_callVi (As := [.int v245, .int v248, .int 1]) (rest := []) C (a_98 ad cy _) rfl (c_X11_feud l dC dI ad cy v245 v248 ((1 : Int32))) h259 hM_L_72 cal_X11_feud ⟨Nat.le_of_ble_eq_true rfl, Nat.le_of_ble_eq_true rfl⟩ ⟨rfl, rfl⟩ ⟨Nat.le_of_ble_eq_true rfl, Nat.le_of_ble_eq_true rfl⟩ rfl rfl (Nat.le_of_ble_eq_true rfl) dL_law_618 ?_
                                    refine g_pop C dL_law_621 rfl ?_
                                    refine g_goto (tgt := 1363) C dL_law_622 (by decide) ?_
                                    obtain ⟨v260, ev260, hf⟩ := ol_e hf
                                    refine g_iinc (j := 3) (w := 5) (lv2 := [(0, .ref b), (1, .ref (ad 0)), (2, .ref (ad 98)), (3, .int v260)]) C dL_law_1363 rfl (by decide) ev260 (by decide) [1, 2, 3, 0] rfl ?_
                                    refine g_goto (tgt := 18) C dL_law_1366 (by decide) ?_
                                    exact g_sub [0, 1, 2, 3] rfl (hs_18 σ258 v260 hf)
                                · refine g_if_eq_f (tgt := 589) C dL_law_582 (by decide) c239 ?_
                                  refine g_iconst (v := 1) C dL_law_585 (by decide) ?_
                                  refine g_goto (tgt := 590) C dL_law_586 (by decide) ?_
                                  obtain ⟨r261, σ262, h263, hf⟩ := obp_e hf
                                  refine g_callVi (As := [.int v232, .int v235, .int 1]) (rest := []) C (a_0 ad cy _) rfl (c_X10_feud l dC dI ad cy v232 v235 ((1 : Int32))) h263 hM_L_68 cal_X10_feud ⟨Nat.le_of_ble_eq_true rfl, Nat.le_of_ble_eq_true rfl⟩ ⟨rfl, rfl⟩ ⟨Nat.le_of_ble_eq_true rfl, Nat.le_of_ble_eq_true rfl⟩ rfl rfl (Nat.le_of_ble_eq_true rfl) dL_law_590 ?_
                                  refine g_pop C dL_law_593 rfl ?_
                                  refine g_aload_n C dL_law_594 rfl 2 rfl ?_
                                  refine g_aload_n C dL_law_595 rfl 0 rfl ?_
                                  refine g_iload_n C dL_law_596 rfl 3 rfl ?_
                                  refine g_iconst (v := 1) C dL_law_597 (by decide) ?_
                                  refine g_iadd C dL_law_598 ?_
                                  obtain ⟨v264, ev264, hf⟩ := ol_e hf
                                  refine g_nm ev264 ?_
                                  obtain ⟨h265, hf⟩ := og_e hf
                                  refine g_sld C hX hbl hbA h265 dL_law_599 ?_
                                  obtain ⟨v266, ev266, hf⟩ := ol_e hf
                                  refine g_nm ev266 ?_
                                  refine g_aload_n C dL_law_600 rfl 0 rfl ?_
                                  refine g_iload_n C dL_law_601 rfl 3 rfl ?_
                                  refine g_iconst (v := 2) C dL_law_602 (by decide) ?_
                                  refine g_iadd C dL_law_603 ?_
                                  obtain ⟨v267, ev267, hf⟩ := ol_e hf
                                  refine g_nm ev267 ?_
                                  obtain ⟨h268, hf⟩ := og_e hf
                                  refine g_sld C hX hbl hbA h268 dL_law_604 ?_
                                  obtain ⟨v269, ev269, hf⟩ := ol_e hf
                                  refine g_nm ev269 ?_
                                  refine g_aload_n C dL_law_605 rfl 0 rfl ?_
                                  refine g_iload_n C dL_law_606 rfl 3 rfl ?_
                                  refine g_iconst (v := 3) C dL_law_607 (by decide) ?_
                                  refine g_iadd C dL_law_608 ?_
                                  obtain ⟨v270, ev270, hf⟩ := ol_e hf
                                  refine g_nm ev270 ?_
                                  obtain ⟨h271, hf⟩ := og_e hf
                                  refine g_sld C hX hbl hbA h271 dL_law_609 ?_
                                  obtain ⟨v272, ev272, hf⟩ := ol_e hf
                                  refine g_nm ev272 ?_
                                  rcases oi_e hf with ⟨c273, hf⟩ | ⟨c273, hf⟩
                                  · refine g_if_eq_t (tgt := 617) C dL_law_610 (by decide) c273 ?_
                                    refine g_iconst (v := 0) C dL_law_617 (by decide) ?_
                                    obtain ⟨r274, σ275, h276, hf⟩ := obp_e hf
                                    refine g_callVi (As := [.int v266, .int v269, .int 0]) (rest := []) C (a_98 ad cy _) rfl (c_X11_feud l dC dI ad cy v266 v269 ((0 : Int32))) h276 hM_L_72 cal_X11_feud ⟨Nat.le_of_ble_eq_true rfl, Nat.le_of_ble_eq_true rfl⟩ ⟨rfl, rfl⟩ ⟨Nat.le_of_ble_eq_true rfl, Nat.le_of_ble_eq_true rfl⟩ rfl rfl (Nat.le_of_ble_eq_true rfl) dL_law_618 ?_
                                    refine g_pop C dL_law_621 rfl ?_
                                    refine g_goto (tgt := 1363) C dL_law_622 (by decide) ?_
                                    obtain ⟨v277, ev277, hf⟩ := ol_e hf
                                    refine g_iinc (j := 3) (w := 5) (lv2 := [(0, .ref b), (1, .ref (ad 0)), (2, .ref (ad 98)), (3, .int v277)]) C dL_law_1363 rfl (by decide) ev277 (by decide) [1, 2, 3, 0] rfl ?_
                                    refine g_goto (tgt := 18) C dL_law_1366 (by decide) ?_
                                    exact g_sub [0, 1, 2, 3] rfl (hs_18 σ275 v277 hf)
                                  · refine g_if_eq_f (tgt := 617) C dL_law_610 (by decide) c273 ?_
                                    refine g_iconst (v := 1) C dL_law_613 (by decide) ?_
                                    refine g_goto (tgt := 618) C dL_law_614 (by decide) ?_
                                    obtain ⟨r278, σ279, h280, hf⟩ := obp_e hf
                                    refine g_callVi (As := [.int v266, .int v269, .int 1]) (rest := []) C (a_98 ad cy _) rfl (c_X11_feud l dC dI ad cy v266 v269 ((1 : Int32))) h280 hM_L_72 cal_X11_feud ⟨Nat.le_of_ble_eq_true rfl, Nat.le_of_ble_eq_true rfl⟩ ⟨rfl, rfl⟩ ⟨Nat.le_of_ble_eq_true rfl, Nat.le_of_ble_eq_true rfl⟩ rfl rfl (Nat.le_of_ble_eq_true rfl) dL_law_618 ?_
                                    refine g_pop C dL_law_621 rfl ?_
                                    refine g_goto (tgt := 1363) C dL_law_622 (by decide) ?_
                                    obtain ⟨v281, ev281, hf⟩ := ol_e hf
                                    refine g_iinc (j := 3) (w := 5) (lv2 := [(0, .ref b), (1, .ref (ad 0)), (2, .ref (ad 98)), (3, .int v281)]) C dL_law_1363 rfl (by decide) ev281 (by decide) [1, 2, 3, 0] rfl ?_
                                    refine g_goto (tgt := 18) C dL_law_1366 (by decide) ?_
                                    exact g_sub [0, 1, 2, 3] rfl (hs_18 σ279 v281 hf)
                              · skip
                                rcases oi_e hf with ⟨c282, hf⟩ | ⟨c282, hf⟩
                                · refine g_tin (tgt := 625) C dL_law_32 (by rw [c282]; decide) (by rw [c282]; decide) (by rw [c282]; rfl) (by decide) ?_
                                  refine g_aload_n C dL_law_625 rfl 1 rfl ?_
                                  refine g_aload_n C dL_law_626 rfl 0 rfl ?_
                                  refine g_iload_n C dL_law_627 rfl 3 rfl ?_
                                  refine g_iconst (v := 1) C dL_law_628 (by decide) ?_
                                  refine g_iadd C dL_law_629 ?_
                                  obtain ⟨v283, ev283, hf⟩ := ol_e hf
                                  refine g_nm ev283 ?_
                                  obtain ⟨h284, hf⟩ := og_e hf
                                  refine g_sld C hX hbl hbA h284 dL_law_630 ?_
                                  obtain ⟨v285, ev285, hf⟩ := ol_e hf
                                  refine g_nm ev285 ?_
                                  obtain ⟨r286, σ287, h288, hf⟩ := obp_e hf
                                  refine g_callVi (As := [.int v285]) (rest := []) C (a_0 ad cy _) rfl (c_X10_feuding l dC dI ad cy v285) h288 hM_L_73 cal_X10_feuding ⟨Nat.le_of_ble_eq_true rfl, Nat.le_of_ble_eq_true rfl⟩ ⟨rfl, rfl⟩ ⟨Nat.le_of_ble_eq_true rfl, Nat.le_of_ble_eq_true rfl⟩ rfl rfl (Nat.le_of_ble_eq_true rfl) dL_law_631 ?_
                                  refine g_pop C dL_law_634 rfl ?_
                                  refine g_aload_n C dL_law_635 rfl 2 rfl ?_
                                  refine g_aload_n C dL_law_636 rfl 0 rfl ?_
                                  refine g_iload_n C dL_law_637 rfl 3 rfl ?_
                                  refine g_iconst (v := 1) C dL_law_638 (by decide) ?_
                                  refine g_iadd C dL_law_639 ?_
                                  obtain ⟨v289, ev289, hf⟩ := ol_e hf
                                  refine g_nm ev289 ?_
                                  obtain ⟨h290, hf⟩ := og_e hf
                                  refine g_sld C hX hbl hbA h290 dL_law_640 ?_
                                  obtain ⟨v291, ev291, hf⟩ := ol_e hf
                                  refine g_nm ev291 ?_
                                  obtain ⟨r292, σ293, h294, hf⟩ := obp_e hf
                                  refine g_callVi (As := [.int v291]) (rest := []) C (a_98 ad cy _) rfl (c_X11_feuding l dC dI ad cy v291) h294 hM_L_76 cal_X11_feuding ⟨Nat.le_of_ble_eq_true rfl, Nat.le_of_ble_eq_true rfl⟩ ⟨rfl, rfl⟩ ⟨Nat.le_of_ble_eq_true rfl, Nat.le_of_ble_eq_true rfl⟩ rfl rfl (Nat.le_of_ble_eq_true rfl) dL_law_641 ?_
                                  refine g_pop C dL_law_644 rfl ?_
                                  refine g_goto (tgt := 1363) C dL_law_645 (by decide) ?_
                                  obtain ⟨v295, ev295, hf⟩ := ol_e hf
                                  refine g_iinc (j := 3) (w := 5) (lv2 := [(0, .ref b), (1, .ref (ad 0)), (2, .ref (ad 98)), (3, .int v295)]) C dL_law_1363 rfl (by decide) ev295 (by decide) [1, 2, 3, 0] rfl ?_
                                  refine g_goto (tgt := 18) C dL_law_1366 (by decide) ?_
                                  exact g_sub [0, 1, 2, 3] rfl (hs_18 σ293 v295 hf)
                                · skip
                                  rcases oi_e hf with ⟨c296, hf⟩ | ⟨c296, hf⟩
                                  · refine g_tin (tgt := 648) C dL_law_32 (by rw [c296]; decide) (by rw [c296]; decide) (by rw [c296]; rfl) (by decide) ?_
                                    refine g_aload_n C dL_law_648 rfl 1 rfl ?_
                                    refine g_aload_n C dL_law_649 rfl 0 rfl ?_
                                    refine g_iload_n C dL_law_650 rfl 3 rfl ?_
                                    refine g_iconst (v := 1) C dL_law_651 (by decide) ?_
                                    refine g_iadd C dL_law_652 ?_
                                    obtain ⟨v297, ev297, hf⟩ := ol_e hf
                                    refine g_nm ev297 ?_
                                    obtain ⟨h298, hf⟩ := og_e hf
                                    refine g_sld C hX hbl hbA h298 dL_law_653 ?_
                                    obtain ⟨v299, ev299, hf⟩ := ol_e hf
                                    refine g_nm ev299 ?_
                                    refine g_aload_n C dL_law_654 rfl 0 rfl ?_
                                    refine g_iload_n C dL_law_655 rfl 3 rfl ?_
                                    refine g_iconst (v := 2) C dL_law_656 (by decide) ?_
                                    refine g_iadd C dL_law_657 ?_
                                    obtain ⟨v300, ev300, hf⟩ := ol_e hf
                                    refine g_nm ev300 ?_
                                    obtain ⟨h301, hf⟩ := og_e hf
                                    refine g_sld C hX hbl hbA h301 dL_law_658 ?_
                                    obtain ⟨v302, ev302, hf⟩ := ol_e hf
                                    refine g_nm ev302 ?_
                                    obtain ⟨r303, σ304, h305, hf⟩ := obp_e hf
                                    refine g_callVi (As := [.int v299, .int v302]) (rest := []) C (a_0 ad cy _) rfl (c_X10_ring l dC dI ad cy v299 v302) h305 hM_L_77 cal_X10_ring ⟨Nat.le_of_ble_eq_true rfl, Nat.le_of_ble_eq_true rfl⟩ ⟨rfl, rfl⟩ ⟨Nat.le_of_ble_eq_true rfl, Nat.le_of_ble_eq_true rfl⟩ rfl rfl (Nat.le_of_ble_eq_true rfl) dL_law_659 ?_
                                    refine g_pop C dL_law_662 rfl ?_
                                    refine g_aload_n C dL_law_663 rfl 2 rfl ?_
                                    refine g_aload_n C dL_law_664 rfl 0 rfl ?_
                                    refine g_iload_n C dL_law_665 rfl 3 rfl ?_
                                    refine g_iconst (v := 1) C dL_law_666 (by decide) ?_
                                    refine g_iadd C dL_law_667 ?_
                                    obtain ⟨v306, ev306, hf⟩ := ol_e hf
                                    refine g_nm ev306 ?_
                                    obtain ⟨h307, hf⟩ := og_e hf
                                    refine g_sld C hX hbl hbA h307 dL_law_668 ?_
                                    obtain ⟨v308, ev308, hf⟩ := ol_e hf
                                    refine g_nm ev308 ?_
                                    refine g_aload_n C dL_law_669 rfl 0 rfl ?_
                                    refine g_iload_n C dL_law_670 rfl 3 rfl ?_
                                    refine g_iconst (v := 2) C dL_law_671 (by decide) ?_
                                    refine g_iadd C dL_law_672 ?_
                                    obtain ⟨v309, ev309, hf⟩ := ol_e hf
                                    refine g_nm ev309 ?_
                                    obtain ⟨h310, hf⟩ := og_e hf
                                    refine g_sld C hX hbl hbA h310 dL_law_673 ?_
                                    obtain ⟨v311, ev311, hf⟩ := ol_e hf
                                    refine g_nm ev311 ?_
                                    obtain ⟨r312, σ313, h314, hf⟩ := obp_e hf
                                    refine g_callVi (As := [.int v308, .int v311]) (rest := []) C (a_98 ad cy _) rfl (c_X11_ring l dC dI ad cy v308 v311) h314 hM_L_80 cal_X11_ring ⟨Nat.le_of_ble_eq_true rfl, Nat.le_of_ble_eq_true rfl⟩ ⟨rfl, rfl⟩ ⟨Nat.le_of_ble_eq_true rfl, Nat.le_of_ble_eq_true rfl⟩ rfl rfl (Nat.le_of_ble_eq_true rfl) dL_law_674 ?_
                                    refine g_pop C dL_law_677 rfl ?_
                                    refine g_goto (tgt := 1363) C dL_law_678 (by decide) ?_
                                    obtain ⟨v315, ev315, hf⟩ := ol_e hf
                                    refine g_iinc (j := 3) (w := 5) (lv2 := [(0, .ref b), (1, .ref (ad 0)), (2, .ref (ad 98)), (3, .int v315)]) C dL_law_1363 rfl (by decide) ev315 (by decide) [1, 2, 3, 0] rfl ?_
                                    refine g_goto (tgt := 18) C dL_law_1366 (by decide) ?_
                                    exact g_sub [0, 1, 2, 3] rfl (hs_18 σ313 v315 hf)
                                  · skip
                                    rcases oi_e hf with ⟨c316, hf⟩ | ⟨c316, hf⟩
                                    · refine g_tin (tgt := 681) C dL_law_32 (by rw [c316]; decide) (by rw [c316]; decide) (by rw [c316]; rfl) (by decide) ?_
                                      refine g_aload_n C dL_law_681 rfl 1 rfl ?_
                                      obtain ⟨r317, σ318, h319, hf⟩ := obp_e hf
                                      refine g_callVi (As := []) (rest := []) C (a_0 ad cy _) rfl (c_X10_taken l dC dI ad cy ) h319 hM_L_81 cal_X10_taken ⟨Nat.le_of_ble_eq_true rfl, Nat.le_of_ble_eq_true rfl⟩ ⟨rfl, rfl⟩ ⟨Nat.le_of_ble_eq_true rfl, Nat.le_of_ble_eq_true rfl⟩ rfl rfl (Nat.le_of_ble_eq_true rfl) dL_law_682 ?_
                                      refine g_pop C dL_law_685 rfl ?_
                                      refine g_aload_n C dL_law_686 rfl 2 rfl ?_
                                      obtain ⟨r320, σ321, h322, hf⟩ := obp_e hf
                                      refine g_callVi (As := []) (rest := []) C (a_98 ad cy _) rfl (c_X11_taken l dC dI ad cy ) h322 hM_L_84 cal_X11_taken ⟨Nat.le_of_ble_eq_true rfl, Nat.le_of_ble_eq_true rfl⟩ ⟨rfl, rfl⟩ ⟨Nat.le_of_ble_eq_true rfl, Nat.le_of_ble_eq_true rfl⟩ rfl rfl (Nat.le_of_ble_eq_true rfl) dL_law_687 ?_
                                      refine g_pop C dL_law_690 rfl ?_
                                      refine g_goto (tgt := 1363) C dL_law_691 (by decide) ?_
                                      obtain ⟨v323, ev323, hf⟩ := ol_e hf
                                      refine g_iinc (j := 3) (w := 5) (lv2 := [(0, .ref b), (1, .ref (ad 0)), (2, .ref (ad 98)), (3, .int v323)]) C dL_law_1363 rfl (by decide) ev323 (by decide) [1, 2, 3, 0] rfl ?_
                                      refine g_goto (tgt := 18) C dL_law_1366 (by decide) ?_
                                      exact g_sub [0, 1, 2, 3] rfl (hs_18 σ321 v323 hf)
                                    · skip
                                      rcases oi_e hf with ⟨c324, hf⟩ | ⟨c324, hf⟩
                                      · refine g_tin (tgt := 694) C dL_law_32 (by rw [c324]; decide) (by rw [c324]; decide) (by rw [c324]; rfl) (by decide) ?_
                                        refine g_aload_n C dL_law_694 rfl 1 rfl ?_
                                        refine g_aload_n C dL_law_695 rfl 0 rfl ?_
                                        refine g_iload_n C dL_law_696 rfl 3 rfl ?_
                                        refine g_iconst (v := 1) C dL_law_697 (by decide) ?_
                                        refine g_iadd C dL_law_698 ?_
                                        obtain ⟨v325, ev325, hf⟩ := ol_e hf
                                        refine g_nm ev325 ?_
                                        obtain ⟨h326, hf⟩ := og_e hf
                                        refine g_sld C hX hbl hbA h326 dL_law_699 ?_
                                        obtain ⟨v327, ev327, hf⟩ := ol_e hf
                                        refine g_nm ev327 ?_
                                        refine g_aload_n C dL_law_700 rfl 0 rfl ?_
                                        refine g_iload_n C dL_law_701 rfl 3 rfl ?_
                                        refine g_iconst (v := 2) C dL_law_702 (by decide) ?_
                                        refine g_iadd C dL_law_703 ?_
                                        obtain ⟨v328, ev328, hf⟩ := ol_e hf
                                        refine g_nm ev328 ?_
                                        obtain ⟨h329, hf⟩ := og_e hf
                                        refine g_sld C hX hbl hbA h329 dL_law_704 ?_
                                        obtain ⟨v330, ev330, hf⟩ := ol_e hf
                                        refine g_nm ev330 ?_
                                        obtain ⟨r331, σ332, h333, hf⟩ := obp_e hf
                                        refine g_callVi (As := [.int v327, .int v330]) (rest := []) C (a_0 ad cy _) rfl (c_X10_gets l dC dI ad cy v327 v330) h333 hM_L_85 cal_X10_gets ⟨Nat.le_of_ble_eq_true rfl, Nat.le_of_ble_eq_true rfl⟩ ⟨rfl, rfl⟩ ⟨Nat.le_of_ble_eq_true rfl, Nat.le_of_ble_eq_true rfl⟩ rfl rfl (Nat.le_of_ble_eq_true rfl) dL_law_705 ?_
                                        refine g_pop C dL_law_708 rfl ?_
                                        refine g_aload_n C dL_law_709 rfl 2 rfl ?_
                                        refine g_aload_n C dL_law_710 rfl 0 rfl ?_
                                        refine g_iload_n C dL_law_711 rfl 3 rfl ?_
                                        refine g_iconst (v := 1) C dL_law_712 (by decide) ?_
                                        refine g_iadd C dL_law_713 ?_
                                        obtain ⟨v334, ev334, hf⟩ := ol_e hf
                                        refine g_nm ev334 ?_
                                        obtain ⟨h335, hf⟩ := og_e hf
                                        refine g_sld C hX hbl hbA h335 dL_law_714 ?_
                                        obtain ⟨v336, ev336, hf⟩ := ol_e hf
                                        refine g_nm ev336 ?_
                                        refine g_aload_n C dL_law_715 rfl 0 rfl ?_
                                        refine g_iload_n C dL_law_716 rfl 3 rfl ?_
                                        refine g_iconst (v := 2) C dL_law_717 (by decide) ?_
                                        refine g_iadd C dL_law_718 ?_
                                        obtain ⟨v337, ev337, hf⟩ := ol_e hf
                                        refine g_nm ev337 ?_
                                        obtain ⟨h338, hf⟩ := og_e hf
                                        refine g_sld C hX hbl hbA h338 dL_law_719 ?_
                                        obtain ⟨v339, ev339, hf⟩ := ol_e hf
                                        refine g_nm ev339 ?_
                                        obtain ⟨r340, σ341, h342, hf⟩ := obp_e hf
                                        refine g_callVi (As := [.int v336, .int v339]) (rest := []) C (a_98 ad cy _) rfl (c_X11_gets l dC dI ad cy v336 v339) h342 hM_L_88 cal_X11_gets ⟨Nat.le_of_ble_eq_true rfl, Nat.le_of_ble_eq_true rfl⟩ ⟨rfl, rfl⟩ ⟨Nat.le_of_ble_eq_true rfl, Nat.le_of_ble_eq_true rfl⟩ rfl rfl (Nat.le_of_ble_eq_true rfl) dL_law_720 ?_
                                        refine g_pop C dL_law_723 rfl ?_
                                        refine g_goto (tgt := 1363) C dL_law_724 (by decide) ?_
                                        obtain ⟨v343, ev343, hf⟩ := ol_e hf
                                        refine g_iinc (j := 3) (w := 5) (lv2 := [(0, .ref b), (1, .ref (ad 0)), (2, .ref (ad 98)), (3, .int v343)]) C dL_law_1363 rfl (by decide) ev343 (by decide) [1, 2, 3, 0] rfl ?_
                                        refine g_goto (tgt := 18) C dL_law_1366 (by decide) ?_
                                        exact g_sub [0, 1, 2, 3] rfl (hs_18 σ341 v343 hf)
                                      · skip
                                        rcases oi_e hf with ⟨c344, hf⟩ | ⟨c344, hf⟩
                                        · refine g_tin (tgt := 727) C dL_law_32 (by rw [c344]; decide) (by rw [c344]; decide) (by rw [c344]; rfl) (by decide) ?_
                                          refine g_aload_n C dL_law_727 rfl 1 rfl ?_
                                          refine g_aload_n C dL_law_728 rfl 0 rfl ?_
                                          refine g_iload_n C dL_law_729 rfl 3 rfl ?_
                                          refine g_iconst (v := 1) C dL_law_730 (by decide) ?_
                                          refine g_iadd C dL_law_731 ?_
                                          obtain ⟨v345, ev345, hf⟩ := ol_e hf
                                          refine g_nm ev345 ?_
                                          obtain ⟨h346, hf⟩ := og_e hf
                                          refine g_sld C hX hbl hbA h346 dL_law_732 ?_
                                          obtain ⟨v347, ev347, hf⟩ := ol_e hf
                                          refine g_nm ev347 ?_
                                          obtain ⟨r348, σ349, h350, hf⟩ := obp_e hf
                                          refine g_callVi (As := [.int v347]) (rest := []) C (a_0 ad cy _) rfl (c_X10_wage l dC dI ad cy v347) h350 hM_L_89 cal_X10_wage ⟨Nat.le_of_ble_eq_true rfl, Nat.le_of_ble_eq_true rfl⟩ ⟨rfl, rfl⟩ ⟨Nat.le_of_ble_eq_true rfl, Nat.le_of_ble_eq_true rfl⟩ rfl rfl (Nat.le_of_ble_eq_true rfl) dL_law_733 ?_
                                          refine g_pop C dL_law_736 rfl ?_
                                          refine g_aload_n C dL_law_737 rfl 2 rfl ?_
                                          refine g_aload_n C dL_law_738 rfl 0 rfl ?_
                                          refine g_iload_n C dL_law_739 rfl 3 rfl ?_
                                          refine g_iconst (v := 1) C dL_law_740 (by decide) ?_
                                          refine g_iadd C dL_law_741 ?_
                                          obtain ⟨v351, ev351, hf⟩ := ol_e hf
                                          refine g_nm ev351 ?_
                                          obtain ⟨h352, hf⟩ := og_e hf
                                          refine g_sld C hX hbl hbA h352 dL_law_742 ?_
                                          obtain ⟨v353, ev353, hf⟩ := ol_e hf
                                          refine g_nm ev353 ?_
                                          obtain ⟨r354, σ355, h356, hf⟩ := obp_e hf
                                          refine g_callVi (As := [.int v353]) (rest := []) C (a_98 ad cy _) rfl (c_X11_wage l dC dI ad cy v353) h356 hM_L_92 cal_X11_wage ⟨Nat.le_of_ble_eq_true rfl, Nat.le_of_ble_eq_true rfl⟩ ⟨rfl, rfl⟩ ⟨Nat.le_of_ble_eq_true rfl, Nat.le_of_ble_eq_true rfl⟩ rfl rfl (Nat.le_of_ble_eq_true rfl) dL_law_743 ?_
                                          refine g_pop C dL_law_746 rfl ?_
                                          refine g_goto (tgt := 1363) C dL_law_747 (by decide) ?_
                                          obtain ⟨v357, ev357, hf⟩ := ol_e hf
                                          refine g_iinc (j := 3) (w := 5) (lv2 := [(0, .ref b), (1, .ref (ad 0)), (2, .ref (ad 98)), (3, .int v357)]) C dL_law_1363 rfl (by decide) ev357 (by decide) [1, 2, 3, 0] rfl ?_
                                          refine g_goto (tgt := 18) C dL_law_1366 (by decide) ?_
                                          exact g_sub [0, 1, 2, 3] rfl (hs_18 σ355 v357 hf)
                                        · skip
                                          rcases oi_e hf with ⟨c358, hf⟩ | ⟨c358, hf⟩
                                          · refine g_tin (tgt := 750) C dL_law_32 (by rw [c358]; decide) (by rw [c358]; decide) (by rw [c358]; rfl) (by decide) ?_
                                            refine g_aload_n C dL_law_750 rfl 1 rfl ?_
                                            refine g_aload_n C dL_law_751 rfl 0 rfl ?_
                                            refine g_iload_n C dL_law_752 rfl 3 rfl ?_
                                            refine g_iconst (v := 1) C dL_law_753 (by decide) ?_
                                            refine g_iadd C dL_law_754 ?_
                                            obtain ⟨v359, ev359, hf⟩ := ol_e hf
                                            refine g_nm ev359 ?_
                                            obtain ⟨h360, hf⟩ := og_e hf
                                            refine g_sld C hX hbl hbA h360 dL_law_755 ?_
                                            obtain ⟨v361, ev361, hf⟩ := ol_e hf
                                            refine g_nm ev361 ?_
                                            refine g_aload_n C dL_law_756 rfl 0 rfl ?_
                                            refine g_iload_n C dL_law_757 rfl 3 rfl ?_
                                            refine g_iconst (v := 2) C dL_law_758 (by decide) ?_
                                            refine g_iadd C dL_law_759 ?_
                                            obtain ⟨v362, ev362, hf⟩ := ol_e hf
                                            refine g_nm ev362 ?_
                                            obtain ⟨h363, hf⟩ := og_e hf
                                            refine g_sld C hX hbl hbA h363 dL_law_760 ?_
                                            obtain ⟨v364, ev364, hf⟩ := ol_e hf
                                            refine g_nm ev364 ?_
                                            obtain ⟨r365, σ366, h367, hf⟩ := obp_e hf
                                            refine g_callVi (As := [.int v361, .int v364]) (rest := []) C (a_0 ad cy _) rfl (c_X10_ask l dC dI ad cy v361 v364) h367 hM_L_93 cal_X10_ask ⟨Nat.le_of_ble_eq_true rfl, Nat.le_of_ble_eq_true rfl⟩ ⟨rfl, rfl⟩ ⟨Nat.le_of_ble_eq_true rfl, Nat.le_of_ble_eq_true rfl⟩ rfl rfl (Nat.le_of_ble_eq_true rfl) dL_law_761 ?_
                                            refine g_pop C dL_law_764 rfl ?_
                                            refine g_aload_n C dL_law_765 rfl 2 rfl ?_
                                            refine g_aload_n C dL_law_766 rfl 0 rfl ?_
                                            refine g_iload_n C dL_law_767 rfl 3 rfl ?_
                                            refine g_iconst (v := 1) C dL_law_768 (by decide) ?_
                                            refine g_iadd C dL_law_769 ?_
                                            obtain ⟨v368, ev368, hf⟩ := ol_e hf
                                            refine g_nm ev368 ?_
                                            obtain ⟨h369, hf⟩ := og_e hf
                                            refine g_sld C hX hbl hbA h369 dL_law_770 ?_
                                            obtain ⟨v370, ev370, hf⟩ := ol_e hf
                                            refine g_nm ev370 ?_
                                            refine g_aload_n C dL_law_771 rfl 0 rfl ?_
                                            refine g_iload_n C dL_law_772 rfl 3 rfl ?_
                                            refine g_iconst (v := 2) C dL_law_773 (by decide) ?_
                                            refine g_iadd C dL_law_774 ?_
                                            obtain ⟨v371, ev371, hf⟩ := ol_e hf
                                            refine g_nm ev371 ?_
                                            obtain ⟨h372, hf⟩ := og_e hf
                                            refine g_sld C hX hbl hbA h372 dL_law_775 ?_
                                            obtain ⟨v373, ev373, hf⟩ := ol_e hf
                                            refine g_nm ev373 ?_
                                            obtain ⟨r374, σ375, h376, hf⟩ := obp_e hf
                                            refine g_callVi (As := [.int v370, .int v373]) (rest := []) C (a_98 ad cy _) rfl (c_X11_ask l dC dI ad cy v370 v373) h376 hM_L_96 cal_X11_ask ⟨Nat.le_of_ble_eq_true rfl, Nat.le_of_ble_eq_true rfl⟩ ⟨rfl, rfl⟩ ⟨Nat.le_of_ble_eq_true rfl, Nat.le_of_ble_eq_true rfl⟩ rfl rfl (Nat.le_of_ble_eq_true rfl) dL_law_776 ?_
                                            refine g_pop C dL_law_779 rfl ?_
                                            refine g_goto (tgt := 1363) C dL_law_780 (by decide) ?_
                                            obtain ⟨v377, ev377, hf⟩ := ol_e hf
                                            refine g_iinc (j := 3) (w := 5) (lv2 := [(0, .ref b), (1, .ref (ad 0)), (2, .ref (ad 98)), (3, .int v377)]) C dL_law_1363 rfl (by decide) ev377 (by decide) [1, 2, 3, 0] rfl ?_
                                            refine g_goto (tgt := 18) C dL_law_1366 (by decide) ?_
                                            exact g_sub [0, 1, 2, 3] rfl (hs_18 σ375 v377 hf)
                                          · skip
                                            rcases oi_e hf with ⟨c378, hf⟩ | ⟨c378, hf⟩
                                            · refine g_tin (tgt := 783) C dL_law_32 (by rw [c378]; decide) (by rw [c378]; decide) (by rw [c378]; rfl) (by decide) ?_
                                              refine g_aload_n C dL_law_783 rfl 1 rfl ?_
                                              refine g_aload_n C dL_law_784 rfl 0 rfl ?_
                                              refine g_iload_n C dL_law_785 rfl 3 rfl ?_
                                              refine g_iconst (v := 1) C dL_law_786 (by decide) ?_
                                              refine g_iadd C dL_law_787 ?_
                                              obtain ⟨v379, ev379, hf⟩ := ol_e hf
                                              refine g_nm ev379 ?_
                                              obtain ⟨h380, hf⟩ := og_e hf
                                              refine g_sld C hX hbl hbA h380 dL_law_788 ?_
                                              obtain ⟨v381, ev381, hf⟩ := ol_e hf
                                              refine g_nm ev381 ?_
                                              refine g_aload_n C dL_law_789 rfl 0 rfl ?_
                                              refine g_iload_n C dL_law_790 rfl 3 rfl ?_
                                              refine g_iconst (v := 2) C dL_law_791 (by decide) ?_
                                              refine g_iadd C dL_law_792 ?_
                                              obtain ⟨v382, ev382, hf⟩ := ol_e hf
                                              refine g_nm ev382 ?_
                                              obtain ⟨h383, hf⟩ := og_e hf
                                              refine g_sld C hX hbl hbA h383 dL_law_793 ?_
                                              obtain ⟨v384, ev384, hf⟩ := ol_e hf
                                              refine g_nm ev384 ?_
                                              obtain ⟨r385, σ386, h387, hf⟩ := obp_e hf
                                              refine g_callVi (As := [.int v381, .int v384]) (rest := []) C (a_0 ad cy _) rfl (c_X10_best l dC dI ad cy v381 v384) h387 hM_L_97 cal_X10_best ⟨Nat.le_of_ble_eq_true rfl, Nat.le_of_ble_eq_true rfl⟩ ⟨rfl, rfl⟩ ⟨Nat.le_of_ble_eq_true rfl, Nat.le_of_ble_eq_true rfl⟩ rfl rfl (Nat.le_of_ble_eq_true rfl) dL_law_794 ?_
                                              refine g_pop C dL_law_797 rfl ?_
                                              refine g_aload_n C dL_law_798 rfl 2 rfl ?_
                                              refine g_aload_n C dL_law_799 rfl 0 rfl ?_
                                              refine g_iload_n C dL_law_800 rfl 3 rfl ?_
                                              refine g_iconst (v := 1) C dL_law_801 (by decide) ?_
                                              refine g_iadd C dL_law_802 ?_
                                              obtain ⟨v388, ev388, hf⟩ := ol_e hf
                                              refine g_nm ev388 ?_
                                              obtain ⟨h389, hf⟩ := og_e hf
                                              refine g_sld C hX hbl hbA h389 dL_law_803 ?_
                                              obtain ⟨v390, ev390, hf⟩ := ol_e hf
                                              refine g_nm ev390 ?_
                                              refine g_aload_n C dL_law_804 rfl 0 rfl ?_
                                              refine g_iload_n C dL_law_805 rfl 3 rfl ?_
                                              refine g_iconst (v := 2) C dL_law_806 (by decide) ?_
                                              refine g_iadd C dL_law_807 ?_
                                              obtain ⟨v391, ev391, hf⟩ := ol_e hf
                                              refine g_nm ev391 ?_
                                              obtain ⟨h392, hf⟩ := og_e hf
                                              refine g_sld C hX hbl hbA h392 dL_law_808 ?_
                                              obtain ⟨v393, ev393, hf⟩ := ol_e hf
                                              refine g_nm ev393 ?_
                                              obtain ⟨r394, σ395, h396, hf⟩ := obp_e hf
                                              refine g_callVi (As := [.int v390, .int v393]) (rest := []) C (a_98 ad cy _) rfl (c_X11_best l dC dI ad cy v390 v393) h396 hM_L_100 cal_X11_best ⟨Nat.le_of_ble_eq_true rfl, Nat.le_of_ble_eq_true rfl⟩ ⟨rfl, rfl⟩ ⟨Nat.le_of_ble_eq_true rfl, Nat.le_of_ble_eq_true rfl⟩ rfl rfl (Nat.le_of_ble_eq_true rfl) dL_law_809 ?_
                                              refine g_pop C dL_law_812 rfl ?_
                                              refine g_goto (tgt := 1363) C dL_law_813 (by decide) ?_
                                              obtain ⟨v397, ev397, hf⟩ := ol_e hf
                                              refine g_iinc (j := 3) (w := 5) (lv2 := [(0, .ref b), (1, .ref (ad 0)), (2, .ref (ad 98)), (3, .int v397)]) C dL_law_1363 rfl (by decide) ev397 (by decide) [1, 2, 3, 0] rfl ?_
                                              refine g_goto (tgt := 18) C dL_law_1366 (by decide) ?_
                                              exact g_sub [0, 1, 2, 3] rfl (hs_18 σ395 v397 hf)
                                            · skip
                                              rcases oi_e hf with ⟨c398, hf⟩ | ⟨c398, hf⟩
                                              · refine g_tin (tgt := 816) C dL_law_32 (by rw [c398]; decide) (by rw [c398]; decide) (by rw [c398]; rfl) (by decide) ?_
                                                refine g_aload_n C dL_law_816 rfl 1 rfl ?_
                                                refine g_aload_n C dL_law_817 rfl 0 rfl ?_
                                                refine g_iload_n C dL_law_818 rfl 3 rfl ?_
                                                refine g_iconst (v := 1) C dL_law_819 (by decide) ?_
                                                refine g_iadd C dL_law_820 ?_
                                                obtain ⟨v399, ev399, hf⟩ := ol_e hf
                                                refine g_nm ev399 ?_
                                                obtain ⟨h400, hf⟩ := og_e hf
                                                refine g_sld C hX hbl hbA h400 dL_law_821 ?_
                                                obtain ⟨v401, ev401, hf⟩ := ol_e hf
                                                refine g_nm ev401 ?_
                                                obtain ⟨r402, σ403, h404, hf⟩ := obp_e hf
                                                refine g_callVi (As := [.int v401]) (rest := []) C (a_0 ad cy _) rfl (c_X10_settle l dC dI ad cy v401) h404 hM_L_101 cal_X10_settle ⟨Nat.le_of_ble_eq_true rfl, Nat.le_of_ble_eq_true rfl⟩ ⟨rfl, rfl⟩ ⟨Nat.le_of_ble_eq_true rfl, Nat.le_of_ble_eq_true rfl⟩ rfl rfl (Nat.le_of_ble_eq_true rfl) dL_law_822 ?_
                                                refine g_pop C dL_law_825 rfl ?_
                                                refine g_aload_n C dL_law_826 rfl 2 rfl ?_
                                                refine g_aload_n C dL_law_827 rfl 0 rfl ?_
                                                refine g_iload_n C dL_law_828 rfl 3 rfl ?_
                                                refine g_iconst (v := 1) C dL_law_829 (by decide) ?_
                                                refine g_iadd C dL_law_830 ?_
                                                obtain ⟨v405, ev405, hf⟩ := ol_e hf
                                                refine g_nm ev405 ?_
                                                obtain ⟨h406, hf⟩ := og_e hf
                                                refine g_sld C hX hbl hbA h406 dL_law_831 ?_
                                                obtain ⟨v407, ev407, hf⟩ := ol_e hf
                                                refine g_nm ev407 ?_
                                                obtain ⟨r408, σ409, h410, hf⟩ := obp_e hf
                                                refine g_callVi (As := [.int v407]) (rest := []) C (a_98 ad cy _) rfl (c_X11_settle l dC dI ad cy v407) h410 hM_L_104 cal_X11_settle ⟨Nat.le_of_ble_eq_true rfl, Nat.le_of_ble_eq_true rfl⟩ ⟨rfl, rfl⟩ ⟨Nat.le_of_ble_eq_true rfl, Nat.le_of_ble_eq_true rfl⟩ rfl rfl (Nat.le_of_ble_eq_true rfl) dL_law_832 ?_
                                                refine g_pop C dL_law_835 rfl ?_
                                                refine g_goto (tgt := 1363) C dL_law_836 (by decide) ?_
                                                obtain ⟨v411, ev411, hf⟩ := ol_e hf
                                                refine g_iinc (j := 3) (w := 5) (lv2 := [(0, .ref b), (1, .ref (ad 0)), (2, .ref (ad 98)), (3, .int v411)]) C dL_law_1363 rfl (by decide) ev411 (by decide) [1, 2, 3, 0] rfl ?_
                                                refine g_goto (tgt := 18) C dL_law_1366 (by decide) ?_
                                                exact g_sub [0, 1, 2, 3] rfl (hs_18 σ409 v411 hf)
                                              · skip
                                                rcases oi_e hf with ⟨c412, hf⟩ | ⟨c412, hf⟩
                                                · refine g_tin (tgt := 839) C dL_law_32 (by rw [c412]; decide) (by rw [c412]; decide) (by rw [c412]; rfl) (by decide) ?_
                                                  refine g_aload_n C dL_law_839 rfl 1 rfl ?_
                                                  obtain ⟨r413, σ414, h415, hf⟩ := obp_e hf
                                                  refine g_callVi (As := []) (rest := []) C (a_0 ad cy _) rfl (c_X10_settled l dC dI ad cy ) h415 hM_L_105 cal_X10_settled ⟨Nat.le_of_ble_eq_true rfl, Nat.le_of_ble_eq_true rfl⟩ ⟨rfl, rfl⟩ ⟨Nat.le_of_ble_eq_true rfl, Nat.le_of_ble_eq_true rfl⟩ rfl rfl (Nat.le_of_ble_eq_true rfl) dL_law_840 ?_
                                                  refine g_pop C dL_law_843 rfl ?_
                                                  refine g_aload_n C dL_law_844 rfl 2 rfl ?_
                                                  obtain ⟨r416, σ417, h418, hf⟩ := obp_e hf
                                                  refine g_callVi (As := []) (rest := []) C (a_98 ad cy _) rfl (c_X11_settled l dC dI ad cy ) h418 hM_L_108 cal_X11_settled ⟨Nat.le_of_ble_eq_true rfl, Nat.le_of_ble_eq_true rfl⟩ ⟨rfl, rfl⟩ ⟨Nat.le_of_ble_eq_true rfl, Nat.le_of_ble_eq_true rfl⟩ rfl rfl (Nat.le_of_ble_eq_true rfl) dL_law_845 ?_
                                                  refine g_pop C dL_law_848 rfl ?_
                                                  refine g_goto (tgt := 1363) C dL_law_849 (by decide) ?_
                                                  obtain ⟨v419, ev419, hf⟩ := ol_e hf
                                                  refine g_iinc (j := 3) (w := 5) (lv2 := [(0, .ref b), (1, .ref (ad 0)), (2, .ref (ad 98)), (3, .int v419)]) C dL_law_1363 rfl (by decide) ev419 (by decide) [1, 2, 3, 0] rfl ?_
                                                  refine g_goto (tgt := 18) C dL_law_1366 (by decide) ?_
                                                  exact g_sub [0, 1, 2, 3] rfl (hs_18 σ417 v419 hf)
                                                · skip
                                                  rcases oi_e hf with ⟨c420, hf⟩ | ⟨c420, hf⟩
                                                  · refine g_tin (tgt := 852) C dL_law_32 (by rw [c420]; decide) (by rw [c420]; decide) (by rw [c420]; rfl) (by decide) ?_
                                                    refine g_aload_n C dL_law_852 rfl 1 rfl ?_
                                                    refine g_aload_n C dL_law_853 rfl 0 rfl ?_
                                                    refine g_iload_n C dL_law_854 rfl 3 rfl ?_
                                                    refine g_iconst (v := 1) C dL_law_855 (by decide) ?_
                                                    refine g_iadd C dL_law_856 ?_
                                                    obtain ⟨v421, ev421, hf⟩ := ol_e hf
                                                    refine g_nm ev421 ?_
                                                    obtain ⟨h422, hf⟩ := og_e hf
                                                    refine g_sld C hX hbl hbA h422 dL_law_857 ?_
                                                    obtain ⟨v423, ev423, hf⟩ := ol_e hf
                                                    refine g_nm ev423 ?_
                                                    refine g_aload_n C dL_law_858 rfl 0 rfl ?_
                                                    refine g_iload_n C dL_law_859 rfl 3 rfl ?_
                                                    refine g_iconst (v := 2) C dL_law_860 (by decide) ?_
                                                    refine g_iadd C dL_law_861 ?_
                                                    obtain ⟨v424, ev424, hf⟩ := ol_e hf
                                                    refine g_nm ev424 ?_
                                                    obtain ⟨h425, hf⟩ := og_e hf
                                                    refine g_sld C hX hbl hbA h425 dL_law_862 ?_
                                                    obtain ⟨v426, ev426, hf⟩ := ol_e hf
                                                    refine g_nm ev426 ?_
                                                    obtain ⟨r427, σ428, h429, hf⟩ := obp_e hf
                                                    refine g_callVi (As := [.int v423, .int v426]) (rest := []) C (a_0 ad cy _) rfl (c_X10_feast l dC dI ad cy v423 v426) h429 hM_L_109 cal_X10_feast ⟨Nat.le_of_ble_eq_true rfl, Nat.le_of_ble_eq_true rfl⟩ ⟨rfl, rfl⟩ ⟨Nat.le_of_ble_eq_true rfl, Nat.le_of_ble_eq_true rfl⟩ rfl rfl (Nat.le_of_ble_eq_true rfl) dL_law_863 ?_
                                                    refine g_pop C dL_law_866 rfl ?_
                                                    refine g_aload_n C dL_law_867 rfl 2 rfl ?_
                                                    refine g_aload_n C dL_law_868 rfl 0 rfl ?_
                                                    refine g_iload_n C dL_law_869 rfl 3 rfl ?_
                                                    refine g_iconst (v := 1) C dL_law_870 (by decide) ?_
                                                    refine g_iadd C dL_law_871 ?_
                                                    obtain ⟨v430, ev430, hf⟩ := ol_e hf
                                                    refine g_nm ev430 ?_
                                                    obtain ⟨h431, hf⟩ := og_e hf
                                                    refine g_sld C hX hbl hbA h431 dL_law_872 ?_
                                                    obtain ⟨v432, ev432, hf⟩ := ol_e hf
                                                    refine g_nm ev432 ?_
                                                    refine g_aload_n C dL_law_873 rfl 0 rfl ?_
                                                    refine g_iload_n C dL_law_874 rfl 3 rfl ?_
                                                    refine g_iconst (v := 2) C dL_law_875 (by decide) ?_
                                                    refine g_iadd C dL_law_876 ?_
                                                    obtain ⟨v433, ev433, hf⟩ := ol_e hf
                                                    refine g_nm ev433 ?_
                                                    obtain ⟨h434, hf⟩ := og_e hf
                                                    refine g_sld C hX hbl hbA h434 dL_law_877 ?_
                                                    obtain ⟨v435, ev435, hf⟩ := ol_e hf
                                                    refine g_nm ev435 ?_
                                                    obtain ⟨r436, σ437, h438, hf⟩ := obp_e hf
                                                    refine g_callVi (As := [.int v432, .int v435]) (rest := []) C (a_98 ad cy _) rfl (c_X11_feast l dC dI ad cy v432 v435) h438 hM_L_112 cal_X11_feast ⟨Nat.le_of_ble_eq_true rfl, Nat.le_of_ble_eq_true rfl⟩ ⟨rfl, rfl⟩ ⟨Nat.le_of_ble_eq_true rfl, Nat.le_of_ble_eq_true rfl⟩ rfl rfl (Nat.le_of_ble_eq_true rfl) dL_law_878 ?_
                                                    refine g_pop C dL_law_881 rfl ?_
                                                    refine g_goto (tgt := 1363) C dL_law_882 (by decide) ?_
                                                    obtain ⟨v439, ev439, hf⟩ := ol_e hf
                                                    refine g_iinc (j := 3) (w := 5) (lv2 := [(0, .ref b), (1, .ref (ad 0)), (2, .ref (ad 98)), (3, .int v439)]) C dL_law_1363 rfl (by decide) ev439 (by decide) [1, 2, 3, 0] rfl ?_
                                                    refine g_goto (tgt := 18) C dL_law_1366 (by decide) ?_
                                                    exact g_sub [0, 1, 2, 3] rfl (hs_18 σ437 v439 hf)
                                                  · skip
                                                    rcases oi_e hf with ⟨c440, hf⟩ | ⟨c440, hf⟩
                                                    · refine g_tin (tgt := 885) C dL_law_32 (by rw [c440]; decide) (by rw [c440]; decide) (by rw [c440]; rfl) (by decide) ?_
                                                      refine g_aload_n C dL_law_885 rfl 1 rfl ?_
                                                      refine g_aload_n C dL_law_886 rfl 0 rfl ?_
                                                      refine g_iload_n C dL_law_887 rfl 3 rfl ?_
                                                      refine g_iconst (v := 1) C dL_law_888 (by decide) ?_
                                                      refine g_iadd C dL_law_889 ?_
                                                      obtain ⟨v441, ev441, hf⟩ := ol_e hf
                                                      refine g_nm ev441 ?_
                                                      obtain ⟨h442, hf⟩ := og_e hf
                                                      refine g_sld C hX hbl hbA h442 dL_law_890 ?_
                                                      obtain ⟨v443, ev443, hf⟩ := ol_e hf
                                                      refine g_nm ev443 ?_
                                                      refine g_aload_n C dL_law_891 rfl 0 rfl ?_
                                                      refine g_iload_n C dL_law_892 rfl 3 rfl ?_
                                                      refine g_iconst (v := 2) C dL_law_893 (by decide) ?_
                                                      refine g_iadd C dL_law_894 ?_
                                                      obtain ⟨v444, ev444, hf⟩ := ol_e hf
                                                      refine g_nm ev444 ?_
                                                      obtain ⟨h445, hf⟩ := og_e hf
                                                      refine g_sld C hX hbl hbA h445 dL_law_895 ?_
                                                      obtain ⟨v446, ev446, hf⟩ := ol_e hf
                                                      refine g_nm ev446 ?_
                                                      refine g_aload_n C dL_law_896 rfl 0 rfl ?_
                                                      refine g_iload_n C dL_law_897 rfl 3 rfl ?_
                                                      refine g_iconst (v := 3) C dL_law_898 (by decide) ?_
                                                      refine g_iadd C dL_law_899 ?_
                                                      obtain ⟨v447, ev447, hf⟩ := ol_e hf
                                                      refine g_nm ev447 ?_
                                                      obtain ⟨h448, hf⟩ := og_e hf
                                                      refine g_sld C hX hbl hbA h448 dL_law_900 ?_
                                                      obtain ⟨v449, ev449, hf⟩ := ol_e hf
                                                      refine g_nm ev449 ?_
                                                      obtain ⟨r450, σ451, h452, hf⟩ := obp_e hf
                                                      refine g_callVi (As := [.int v443, .int v446, .int v449]) (rest := []) C (a_0 ad cy _) rfl (c_X10_fair l dC dI ad cy v443 v446 v449) h452 hM_L_113 cal_X10_fair ⟨Nat.le_of_ble_eq_true rfl, Nat.le_of_ble_eq_true rfl⟩ ⟨rfl, rfl⟩ ⟨Nat.le_of_ble_eq_true rfl, Nat.le_of_ble_eq_true rfl⟩ rfl rfl (Nat.le_of_ble_eq_true rfl) dL_law_901 ?_
                                                      refine g_pop C dL_law_904 rfl ?_
                                                      refine g_aload_n C dL_law_905 rfl 2 rfl ?_
                                                      refine g_aload_n C dL_law_906 rfl 0 rfl ?_
                                                      refine g_iload_n C dL_law_907 rfl 3 rfl ?_
                                                      refine g_iconst (v := 1) C dL_law_908 (by decide) ?_
                                                      refine g_iadd C dL_law_909 ?_
                                                      obtain ⟨v453, ev453, hf⟩ := ol_e hf
                                                      refine g_nm ev453 ?_
                                                      obtain ⟨h454, hf⟩ := og_e hf
                                                      refine g_sld C hX hbl hbA h454 dL_law_910 ?_
                                                      obtain ⟨v455, ev455, hf⟩ := ol_e hf
                                                      refine g_nm ev455 ?_
                                                      refine g_aload_n C dL_law_911 rfl 0 rfl ?_
                                                      refine g_iload_n C dL_law_912 rfl 3 rfl ?_
                                                      refine g_iconst (v := 2) C dL_law_913 (by decide) ?_
                                                      refine g_iadd C dL_law_914 ?_
                                                      obtain ⟨v456, ev456, hf⟩ := ol_e hf
                                                      refine g_nm ev456 ?_
                                                      obtain ⟨h457, hf⟩ := og_e hf
                                                      refine g_sld C hX hbl hbA h457 dL_law_915 ?_
                                                      obtain ⟨v458, ev458, hf⟩ := ol_e hf
                                                      refine g_nm ev458 ?_
                                                      refine g_aload_n C dL_law_916 rfl 0 rfl ?_
                                                      refine g_iload_n C dL_law_917 rfl 3 rfl ?_
                                                      refine g_iconst (v := 3) C dL_law_918 (by decide) ?_
                                                      refine g_iadd C dL_law_919 ?_
                                                      obtain ⟨v459, ev459, hf⟩ := ol_e hf
                                                      refine g_nm ev459 ?_
                                                      obtain ⟨h460, hf⟩ := og_e hf
                                                      refine g_sld C hX hbl hbA h460 dL_law_920 ?_
                                                      obtain ⟨v461, ev461, hf⟩ := ol_e hf
                                                      refine g_nm ev461 ?_
                                                      obtain ⟨r462, σ463, h464, hf⟩ := obp_e hf
                                                      refine g_callVi (As := [.int v455, .int v458, .int v461]) (rest := []) C (a_98 ad cy _) rfl (c_X11_fair l dC dI ad cy v455 v458 v461) h464 hM_L_117 cal_X11_fair ⟨Nat.le_of_ble_eq_true rfl, Nat.le_of_ble_eq_true rfl⟩ ⟨rfl, rfl⟩ ⟨Nat.le_of_ble_eq_true rfl, Nat.le_of_ble_eq_true rfl⟩ rfl rfl (Nat.le_of_ble_eq_true rfl) dL_law_921 ?_
                                                      refine g_pop C dL_law_924 rfl ?_
                                                      refine g_goto (tgt := 1363) C dL_law_925 (by decide) ?_
                                                      obtain ⟨v465, ev465, hf⟩ := ol_e hf
                                                      refine g_iinc (j := 3) (w := 5) (lv2 := [(0, .ref b), (1, .ref (ad 0)), (2, .ref (ad 98)), (3, .int v465)]) C dL_law_1363 rfl (by decide) ev465 (by decide) [1, 2, 3, 0] rfl ?_
                                                      refine g_goto (tgt := 18) C dL_law_1366 (by decide) ?_
                                                      exact g_sub [0, 1, 2, 3] rfl (hs_18 σ463 v465 hf)
                                                    · skip
                                                      rcases oi_e hf with ⟨c466, hf⟩ | ⟨c466, hf⟩
                                                      · refine g_tin (tgt := 928) C dL_law_32 (by rw [c466]; decide) (by rw [c466]; decide) (by rw [c466]; rfl) (by decide) ?_
                                                        refine g_aload_n C dL_law_928 rfl 1 rfl ?_
                                                        refine g_aload_n C dL_law_929 rfl 0 rfl ?_
                                                        refine g_iload_n C dL_law_930 rfl 3 rfl ?_
                                                        refine g_iconst (v := 1) C dL_law_931 (by decide) ?_
                                                        refine g_iadd C dL_law_932 ?_
                                                        obtain ⟨v467, ev467, hf⟩ := ol_e hf
                                                        refine g_nm ev467 ?_
                                                        obtain ⟨h468, hf⟩ := og_e hf
                                                        refine g_sld C hX hbl hbA h468 dL_law_933 ?_
                                                        obtain ⟨v469, ev469, hf⟩ := ol_e hf
                                                        refine g_nm ev469 ?_
                                                        refine g_aload_n C dL_law_934 rfl 0 rfl ?_
                                                        refine g_iload_n C dL_law_935 rfl 3 rfl ?_
                                                        refine g_iconst (v := 2) C dL_law_936 (by decide) ?_
                                                        refine g_iadd C dL_law_937 ?_
                                                        obtain ⟨v470, ev470, hf⟩ := ol_e hf
                                                        refine g_nm ev470 ?_
                                                        obtain ⟨h471, hf⟩ := og_e hf
                                                        refine g_sld C hX hbl hbA h471 dL_law_938 ?_
                                                        obtain ⟨v472, ev472, hf⟩ := ol_e hf
                                                        refine g_nm ev472 ?_
                                                        refine g_aload_n C dL_law_939 rfl 0 rfl ?_
                                                        refine g_iload_n C dL_law_940 rfl 3 rfl ?_
                                                        refine g_iconst (v := 3) C dL_law_941 (by decide) ?_
                                                        refine g_iadd C dL_law_942 ?_
                                                        obtain ⟨v473, ev473, hf⟩ := ol_e hf
                                                        refine g_nm ev473 ?_
                                                        obtain ⟨h474, hf⟩ := og_e hf
                                                        refine g_sld C hX hbl hbA h474 dL_law_943 ?_
                                                        obtain ⟨v475, ev475, hf⟩ := ol_e hf
                                                        refine g_nm ev475 ?_
                                                        obtain ⟨r476, σ477, h478, hf⟩ := obp_e hf
                                                        refine g_callVi (As := [.int v469, .int v472, .int v475]) (rest := []) C (a_0 ad cy _) rfl (c_X10_nearest l dC dI ad cy v469 v472 v475) h478 hM_L_118 cal_X10_nearest ⟨Nat.le_of_ble_eq_true rfl, Nat.le_of_ble_eq_true rfl⟩ ⟨rfl, rfl⟩ ⟨Nat.le_of_ble_eq_true rfl, Nat.le_of_ble_eq_true rfl⟩ rfl rfl (Nat.le_of_ble_eq_true rfl) dL_law_944 ?_
                                                        refine g_pop C dL_law_947 rfl ?_
                                                        refine g_aload_n C dL_law_948 rfl 2 rfl ?_
                                                        refine g_aload_n C dL_law_949 rfl 0 rfl ?_
                                                        refine g_iload_n C dL_law_950 rfl 3 rfl ?_
                                                        refine g_iconst (v := 1) C dL_law_951 (by decide) ?_
                                                        refine g_iadd C dL_law_952 ?_
                                                        obtain ⟨v479, ev479, hf⟩ := ol_e hf
                                                        refine g_nm ev479 ?_
                                                        obtain ⟨h480, hf⟩ := og_e hf
                                                        refine g_sld C hX hbl hbA h480 dL_law_953 ?_
                                                        obtain ⟨v481, ev481, hf⟩ := ol_e hf
                                                        refine g_nm ev481 ?_
                                                        refine g_aload_n C dL_law_954 rfl 0 rfl ?_
                                                        refine g_iload_n C dL_law_955 rfl 3 rfl ?_
                                                        refine g_iconst (v := 2) C dL_law_956 (by decide) ?_
                                                        refine g_iadd C dL_law_957 ?_
                                                        obtain ⟨v482, ev482, hf⟩ := ol_e hf
                                                        refine g_nm ev482 ?_
                                                        obtain ⟨h483, hf⟩ := og_e hf
                                                        refine g_sld C hX hbl hbA h483 dL_law_958 ?_
                                                        obtain ⟨v484, ev484, hf⟩ := ol_e hf
                                                        refine g_nm ev484 ?_
                                                        refine g_aload_n C dL_law_959 rfl 0 rfl ?_
                                                        refine g_iload_n C dL_law_960 rfl 3 rfl ?_
                                                        refine g_iconst (v := 3) C dL_law_961 (by decide) ?_
                                                        refine g_iadd C dL_law_962 ?_
                                                        obtain ⟨v485, ev485, hf⟩ := ol_e hf
                                                        refine g_nm ev485 ?_
                                                        obtain ⟨h486, hf⟩ := og_e hf
                                                        refine g_sld C hX hbl hbA h486 dL_law_963 ?_
                                                        obtain ⟨v487, ev487, hf⟩ := ol_e hf
                                                        refine g_nm ev487 ?_
                                                        obtain ⟨r488, σ489, h490, hf⟩ := obp_e hf
                                                        refine g_callVi (As := [.int v481, .int v484, .int v487]) (rest := []) C (a_98 ad cy _) rfl (c_X11_nearest l dC dI ad cy v481 v484 v487) h490 hM_L_121 cal_X11_nearest ⟨Nat.le_of_ble_eq_true rfl, Nat.le_of_ble_eq_true rfl⟩ ⟨rfl, rfl⟩ ⟨Nat.le_of_ble_eq_true rfl, Nat.le_of_ble_eq_true rfl⟩ rfl rfl (Nat.le_of_ble_eq_true rfl) dL_law_964 ?_
                                                        refine g_pop C dL_law_967 rfl ?_
                                                        refine g_goto (tgt := 1363) C dL_law_968 (by decide) ?_
                                                        obtain ⟨v491, ev491, hf⟩ := ol_e hf
                                                        refine g_iinc (j := 3) (w := 5) (lv2 := [(0, .ref b), (1, .ref (ad 0)), (2, .ref (ad 98)), (3, .int v491)]) C dL_law_1363 rfl (by decide) ev491 (by decide) [1, 2, 3, 0] rfl ?_
                                                        refine g_goto (tgt := 18) C dL_law_1366 (by decide) ?_
                                                        exact g_sub [0, 1, 2, 3] rfl (hs_18 σ489 v491 hf)
                                                      · skip
                                                        rcases oi_e hf with ⟨c492, hf⟩ | ⟨c492, hf⟩
                                                        · refine g_tin (tgt := 971) C dL_law_32 (by rw [c492]; decide) (by rw [c492]; decide) (by rw [c492]; rfl) (by decide) ?_
                                                          refine g_aload_n C dL_law_971 rfl 1 rfl ?_
                                                          refine g_aload_n C dL_law_972 rfl 0 rfl ?_
                                                          refine g_iload_n C dL_law_973 rfl 3 rfl ?_
                                                          refine g_iconst (v := 1) C dL_law_974 (by decide) ?_
                                                          refine g_iadd C dL_law_975 ?_
                                                          obtain ⟨v493, ev493, hf⟩ := ol_e hf
                                                          refine g_nm ev493 ?_
                                                          obtain ⟨h494, hf⟩ := og_e hf
                                                          refine g_sld C hX hbl hbA h494 dL_law_976 ?_
                                                          obtain ⟨v495, ev495, hf⟩ := ol_e hf
                                                          refine g_nm ev495 ?_
                                                          obtain ⟨r496, σ497, h498, hf⟩ := obp_e hf
                                                          refine g_callVi (As := [.int v495]) (rest := []) C (a_0 ad cy _) rfl (c_X10_dear l dC dI ad cy v495) h498 hM_L_122 cal_X10_dear ⟨Nat.le_of_ble_eq_true rfl, Nat.le_of_ble_eq_true rfl⟩ ⟨rfl, rfl⟩ ⟨Nat.le_of_ble_eq_true rfl, Nat.le_of_ble_eq_true rfl⟩ rfl rfl (Nat.le_of_ble_eq_true rfl) dL_law_977 ?_
                                                          refine g_pop C dL_law_980 rfl ?_
                                                          refine g_aload_n C dL_law_981 rfl 2 rfl ?_
                                                          refine g_aload_n C dL_law_982 rfl 0 rfl ?_
                                                          refine g_iload_n C dL_law_983 rfl 3 rfl ?_
                                                          refine g_iconst (v := 1) C dL_law_984 (by decide) ?_
                                                          refine g_iadd C dL_law_985 ?_
                                                          obtain ⟨v499, ev499, hf⟩ := ol_e hf
                                                          refine g_nm ev499 ?_
                                                          obtain ⟨h500, hf⟩ := og_e hf
                                                          refine g_sld C hX hbl hbA h500 dL_law_986 ?_
                                                          obtain ⟨v501, ev501, hf⟩ := ol_e hf
                                                          refine g_nm ev501 ?_
                                                          obtain ⟨r502, σ503, h504, hf⟩ := obp_e hf
                                                          refine g_callVi (As := [.int v501]) (rest := []) C (a_98 ad cy _) rfl (c_X11_dear l dC dI ad cy v501) h504 hM_L_125 cal_X11_dear ⟨Nat.le_of_ble_eq_true rfl, Nat.le_of_ble_eq_true rfl⟩ ⟨rfl, rfl⟩ ⟨Nat.le_of_ble_eq_true rfl, Nat.le_of_ble_eq_true rfl⟩ rfl rfl (Nat.le_of_ble_eq_true rfl) dL_law_987 ?_
                                                          refine g_pop C dL_law_990 rfl ?_
                                                          refine g_goto (tgt := 1363) C dL_law_991 (by decide) ?_
                                                          obtain ⟨v505, ev505, hf⟩ := ol_e hf
                                                          refine g_iinc (j := 3) (w := 5) (lv2 := [(0, .ref b), (1, .ref (ad 0)), (2, .ref (ad 98)), (3, .int v505)]) C dL_law_1363 rfl (by decide) ev505 (by decide) [1, 2, 3, 0] rfl ?_
                                                          refine g_goto (tgt := 18) C dL_law_1366 (by decide) ?_
                                                          exact g_sub [0, 1, 2, 3] rfl (hs_18 σ503 v505 hf)
                                                        · skip
                                                          rcases oi_e hf with ⟨c506, hf⟩ | ⟨c506, hf⟩
                                                          · refine g_tin (tgt := 994) C dL_law_32 (by rw [c506]; decide) (by rw [c506]; decide) (by rw [c506]; rfl) (by decide) ?_
                                                            refine g_aload_n C dL_law_994 rfl 1 rfl ?_
                                                            refine g_aload_n C dL_law_995 rfl 0 rfl ?_
                                                            refine g_iload_n C dL_law_996 rfl 3 rfl ?_
                                                            refine g_iconst (v := 1) C dL_law_997 (by decide) ?_
                                                            refine g_iadd C dL_law_998 ?_
                                                            obtain ⟨v507, ev507, hf⟩ := ol_e hf
                                                            refine g_nm ev507 ?_
                                                            obtain ⟨h508, hf⟩ := og_e hf
                                                            refine g_sld C hX hbl hbA h508 dL_law_999 ?_
                                                            obtain ⟨v509, ev509, hf⟩ := ol_e hf
                                                            refine g_nm ev509 ?_
                                                            refine g_aload_n C dL_law_1000 rfl 0 rfl ?_
                                                            refine g_iload_n C dL_law_1001 rfl 3 rfl ?_
                                                            refine g_iconst (v := 2) C dL_law_1002 (by decide) ?_
                                                            refine g_iadd C dL_law_1003 ?_
                                                            obtain ⟨v510, ev510, hf⟩ := ol_e hf
                                                            refine g_nm ev510 ?_
                                                            obtain ⟨h511, hf⟩ := og_e hf
                                                            refine g_sld C hX hbl hbA h511 dL_law_1004 ?_
                                                            obtain ⟨v512, ev512, hf⟩ := ol_e hf
                                                            refine g_nm ev512 ?_
                                                            obtain ⟨r513, σ514, h515, hf⟩ := obp_e hf
                                                            refine g_callVi (As := [.int v509, .int v512]) (rest := []) C (a_0 ad cy _) rfl (c_X10_storm l dC dI ad cy v509 v512) h515 hM_L_126 cal_X10_storm ⟨Nat.le_of_ble_eq_true rfl, Nat.le_of_ble_eq_true rfl⟩ ⟨rfl, rfl⟩ ⟨Nat.le_of_ble_eq_true rfl, Nat.le_of_ble_eq_true rfl⟩ rfl rfl (Nat.le_of_ble_eq_true rfl) dL_law_1005 ?_
                                                            refine g_pop C dL_law_1008 rfl ?_
                                                            refine g_aload_n C dL_law_1009 rfl 2 rfl ?_
                                                            refine g_aload_n C dL_law_1010 rfl 0 rfl ?_
                                                            refine g_iload_n C dL_law_1011 rfl 3 rfl ?_
                                                            refine g_iconst (v := 1) C dL_law_1012 (by decide) ?_
                                                            refine g_iadd C dL_law_1013 ?_
                                                            obtain ⟨v516, ev516, hf⟩ := ol_e hf
                                                            refine g_nm ev516 ?_
                                                            obtain ⟨h517, hf⟩ := og_e hf
                                                            refine g_sld C hX hbl hbA h517 dL_law_1014 ?_
                                                            obtain ⟨v518, ev518, hf⟩ := ol_e hf
                                                            refine g_nm ev518 ?_
                                                            refine g_aload_n C dL_law_1015 rfl 0 rfl ?_
                                                            refine g_iload_n C dL_law_1016 rfl 3 rfl ?_
                                                            refine g_iconst (v := 2) C dL_law_1017 (by decide) ?_
                                                            refine g_iadd C dL_law_1018 ?_
                                                            obtain ⟨v519, ev519, hf⟩ := ol_e hf
                                                            refine g_nm ev519 ?_
                                                            obtain ⟨h520, hf⟩ := og_e hf
                                                            refine g_sld C hX hbl hbA h520 dL_law_1019 ?_
                                                            obtain ⟨v521, ev521, hf⟩ := ol_e hf
                                                            refine g_nm ev521 ?_
                                                            obtain ⟨r522, σ523, h524, hf⟩ := obp_e hf
                                                            refine g_callVi (As := [.int v518, .int v521]) (rest := []) C (a_98 ad cy _) rfl (c_X11_storm l dC dI ad cy v518 v521) h524 hM_L_129 cal_X11_storm ⟨Nat.le_of_ble_eq_true rfl, Nat.le_of_ble_eq_true rfl⟩ ⟨rfl, rfl⟩ ⟨Nat.le_of_ble_eq_true rfl, Nat.le_of_ble_eq_true rfl⟩ rfl rfl (Nat.le_of_ble_eq_true rfl) dL_law_1020 ?_
                                                            refine g_pop C dL_law_1023 rfl ?_
                                                            refine g_goto (tgt := 1363) C dL_law_1024 (by decide) ?_
                                                            obtain ⟨v525, ev525, hf⟩ := ol_e hf
                                                            refine g_iinc (j := 3) (w := 5) (lv2 := [(0, .ref b), (1, .ref (ad 0)), (2, .ref (ad 98)), (3, .int v525)]) C dL_law_1363 rfl (by decide) ev525 (by decide) [1, 2, 3, 0] rfl ?_
                                                            refine g_goto (tgt := 18) C dL_law_1366 (by decide) ?_
                                                            exact g_sub [0, 1, 2, 3] rfl (hs_18 σ523 v525 hf)
                                                          · skip
                                                            rcases oi_e hf with ⟨c526, hf⟩ | ⟨c526, hf⟩
                                                            · refine g_tin (tgt := 1027) C dL_law_32 (by rw [c526]; decide) (by rw [c526]; decide) (by rw [c526]; rfl) (by decide) ?_
                                                              refine g_aload_n C dL_law_1027 rfl 1 rfl ?_
                                                              refine g_aload_n C dL_law_1028 rfl 0 rfl ?_
                                                              refine g_iload_n C dL_law_1029 rfl 3 rfl ?_
                                                              refine g_iconst (v := 1) C dL_law_1030 (by decide) ?_
                                                              refine g_iadd C dL_law_1031 ?_
                                                              obtain ⟨v527, ev527, hf⟩ := ol_e hf
                                                              refine g_nm ev527 ?_
                                                              obtain ⟨h528, hf⟩ := og_e hf
                                                              refine g_sld C hX hbl hbA h528 dL_law_1032 ?_
                                                              obtain ⟨v529, ev529, hf⟩ := ol_e hf
                                                              refine g_nm ev529 ?_
                                                              refine g_aload_n C dL_law_1033 rfl 0 rfl ?_
                                                              refine g_iload_n C dL_law_1034 rfl 3 rfl ?_
                                                              refine g_iconst (v := 2) C dL_law_1035 (by decide) ?_
                                                              refine g_iadd C dL_law_1036 ?_
                                                              obtain ⟨v530, ev530, hf⟩ := ol_e hf
                                                              refine g_nm ev530 ?_
                                                              obtain ⟨h531, hf⟩ := og_e hf
                                                              refine g_sld C hX hbl hbA h531 dL_law_1037 ?_
                                                              obtain ⟨v532, ev532, hf⟩ := ol_e hf
                                                              refine g_nm ev532 ?_
                                                              obtain ⟨r533, σ534, h535, hf⟩ := obp_e hf
                                                              refine g_callVi (As := [.int v529, .int v532]) (rest := []) C (a_0 ad cy _) rfl (c_X10_wine l dC dI ad cy v529 v532) h535 hM_L_130 cal_X10_wine ⟨Nat.le_of_ble_eq_true rfl, Nat.le_of_ble_eq_true rfl⟩ ⟨rfl, rfl⟩ ⟨Nat.le_of_ble_eq_true rfl, Nat.le_of_ble_eq_true rfl⟩ rfl rfl (Nat.le_of_ble_eq_true rfl) dL_law_1038 ?_
                                                              refine g_pop C dL_law_1041 rfl ?_
                                                              refine g_aload_n C dL_law_1042 rfl 2 rfl ?_
                                                              refine g_aload_n C dL_law_1043 rfl 0 rfl ?_
                                                              refine g_iload_n C dL_law_1044 rfl 3 rfl ?_
                                                              refine g_iconst (v := 1) C dL_law_1045 (by decide) ?_
                                                              refine g_iadd C dL_law_1046 ?_
                                                              obtain ⟨v536, ev536, hf⟩ := ol_e hf
                                                              refine g_nm ev536 ?_
                                                              obtain ⟨h537, hf⟩ := og_e hf
                                                              refine g_sld C hX hbl hbA h537 dL_law_1047 ?_
                                                              obtain ⟨v538, ev538, hf⟩ := ol_e hf
                                                              refine g_nm ev538 ?_
                                                              refine g_aload_n C dL_law_1048 rfl 0 rfl ?_
                                                              refine g_iload_n C dL_law_1049 rfl 3 rfl ?_
                                                              refine g_iconst (v := 2) C dL_law_1050 (by decide) ?_
                                                              refine g_iadd C dL_law_1051 ?_
                                                              obtain ⟨v539, ev539, hf⟩ := ol_e hf
                                                              refine g_nm ev539 ?_
                                                              obtain ⟨h540, hf⟩ := og_e hf
                                                              refine g_sld C hX hbl hbA h540 dL_law_1052 ?_
                                                              obtain ⟨v541, ev541, hf⟩ := ol_e hf
                                                              refine g_nm ev541 ?_
                                                              obtain ⟨r542, σ543, h544, hf⟩ := obp_e hf
                                                              refine g_callVi (As := [.int v538, .int v541]) (rest := []) C (a_98 ad cy _) rfl (c_X11_wine l dC dI ad cy v538 v541) h544 hM_L_133 cal_X11_wine ⟨Nat.le_of_ble_eq_true rfl, Nat.le_of_ble_eq_true rfl⟩ ⟨rfl, rfl⟩ ⟨Nat.le_of_ble_eq_true rfl, Nat.le_of_ble_eq_true rfl⟩ rfl rfl (Nat.le_of_ble_eq_true rfl) dL_law_1053 ?_
                                                              refine g_pop C dL_law_1056 rfl ?_
                                                              refine g_goto (tgt := 1363) C dL_law_1057 (by decide) ?_
                                                              obtain ⟨v545, ev545, hf⟩ := ol_e hf
                                                              refine g_iinc (j := 3) (w := 5) (lv2 := [(0, .ref b), (1, .ref (ad 0)), (2, .ref (ad 98)), (3, .int v545)]) C dL_law_1363 rfl (by decide) ev545 (by decide) [1, 2, 3, 0] rfl ?_
                                                              refine g_goto (tgt := 18) C dL_law_1366 (by decide) ?_
                                                              exact g_sub [0, 1, 2, 3] rfl (hs_18 σ543 v545 hf)
                                                            · skip
                                                              rcases oi_e hf with ⟨c546, hf⟩ | ⟨c546, hf⟩
                                                              · refine g_tin (tgt := 1060) C dL_law_32 (by rw [c546]; decide) (by rw [c546]; decide) (by rw [c546]; rfl) (by decide) ?_
                                                                refine g_aload_n C dL_law_1060 rfl 1 rfl ?_
                                                                refine g_aload_n C dL_law_1061 rfl 0 rfl ?_
                                                                refine g_iload_n C dL_law_1062 rfl 3 rfl ?_
                                                                refine g_iconst (v := 1) C dL_law_1063 (by decide) ?_
                                                                refine g_iadd C dL_law_1064 ?_
                                                                obtain ⟨v547, ev547, hf⟩ := ol_e hf
                                                                refine g_nm ev547 ?_
                                                                obtain ⟨h548, hf⟩ := og_e hf
                                                                refine g_sld C hX hbl hbA h548 dL_law_1065 ?_
                                                                obtain ⟨v549, ev549, hf⟩ := ol_e hf
                                                                refine g_nm ev549 ?_
                                                                obtain ⟨r550, σ551, h552, hf⟩ := obp_e hf
                                                                refine g_callVi (As := [.int v549]) (rest := []) C (a_0 ad cy _) rfl (c_X10_hear l dC dI ad cy v549) h552 hM_L_134 cal_X10_hear ⟨Nat.le_of_ble_eq_true rfl, Nat.le_of_ble_eq_true rfl⟩ ⟨rfl, rfl⟩ ⟨Nat.le_of_ble_eq_true rfl, Nat.le_of_ble_eq_true rfl⟩ rfl rfl (Nat.le_of_ble_eq_true rfl) dL_law_1066 ?_
                                                                refine g_pop C dL_law_1069 rfl ?_
                                                                refine g_aload_n C dL_law_1070 rfl 2 rfl ?_
                                                                refine g_aload_n C dL_law_1071 rfl 0 rfl ?_
                                                                refine g_iload_n C dL_law_1072 rfl 3 rfl ?_
                                                                refine g_iconst (v := 1) C dL_law_1073 (by decide) ?_
                                                                refine g_iadd C dL_law_1074 ?_
                                                                obtain ⟨v553, ev553, hf⟩ := ol_e hf
                                                                refine g_nm ev553 ?_
                                                                obtain ⟨h554, hf⟩ := og_e hf
                                                                refine g_sld C hX hbl hbA h554 dL_law_1075 ?_
                                                                obtain ⟨v555, ev555, hf⟩ := ol_e hf
                                                                refine g_nm ev555 ?_
                                                                obtain ⟨r556, σ557, h558, hf⟩ := obp_e hf
                                                                refine g_callVi (As := [.int v555]) (rest := []) C (a_98 ad cy _) rfl (c_X11_hear l dC dI ad cy v555) h558 hM_L_137 cal_X11_hear ⟨Nat.le_of_ble_eq_true rfl, Nat.le_of_ble_eq_true rfl⟩ ⟨rfl, rfl⟩ ⟨Nat.le_of_ble_eq_true rfl, Nat.le_of_ble_eq_true rfl⟩ rfl rfl (Nat.le_of_ble_eq_true rfl) dL_law_1076 ?_
                                                                refine g_pop C dL_law_1079 rfl ?_
                                                                refine g_goto (tgt := 1363) C dL_law_1080 (by decide) ?_
                                                                obtain ⟨v559, ev559, hf⟩ := ol_e hf
                                                                refine g_iinc (j := 3) (w := 5) (lv2 := [(0, .ref b), (1, .ref (ad 0)), (2, .ref (ad 98)), (3, .int v559)]) C dL_law_1363 rfl (by decide) ev559 (by decide) [1, 2, 3, 0] rfl ?_
                                                                refine g_goto (tgt := 18) C dL_law_1366 (by decide) ?_
                                                                exact g_sub [0, 1, 2, 3] rfl (hs_18 σ557 v559 hf)
                                                              · skip
                                                                rcases oi_e hf with ⟨c560, hf⟩ | ⟨c560, hf⟩
                                                                · refine g_tin (tgt := 1083) C dL_law_32 (by rw [c560]; decide) (by rw [c560]; decide) (by rw [c560]; rfl) (by decide) ?_
                                                                  refine g_aload_n C dL_law_1083 rfl 1 rfl ?_
                                                                  obtain ⟨r561, σ562, h563, hf⟩ := obp_e hf
                                                                  refine g_callVi (As := []) (rest := []) C (a_0 ad cy _) rfl (c_X10_hush l dC dI ad cy ) h563 hM_L_138 cal_X10_hush ⟨Nat.le_of_ble_eq_true rfl, Nat.le_of_ble_eq_true rfl⟩ ⟨rfl, rfl⟩ ⟨Nat.le_of_ble_eq_true rfl, Nat.le_of_ble_eq_true rfl⟩ rfl rfl (Nat.le_of_ble_eq_true rfl) dL_law_1084 ?_
                                                                  refine g_pop C dL_law_1087 rfl ?_
                                                                  refine g_aload_n C dL_law_1088 rfl 2 rfl ?_
                                                                  obtain ⟨r564, σ565, h566, hf⟩ := obp_e hf
                                                                  refine g_callVi (As := []) (rest := []) C (a_98 ad cy _) rfl (c_X11_hush l dC dI ad cy ) h566 hM_L_141 cal_X11_hush ⟨Nat.le_of_ble_eq_true rfl, Nat.le_of_ble_eq_true rfl⟩ ⟨rfl, rfl⟩ ⟨Nat.le_of_ble_eq_true rfl, Nat.le_of_ble_eq_true rfl⟩ rfl rfl (Nat.le_of_ble_eq_true rfl) dL_law_1089 ?_
                                                                  refine g_pop C dL_law_1092 rfl ?_
                                                                  refine g_goto (tgt := 1363) C dL_law_1093 (by decide) ?_
                                                                  obtain ⟨v567, ev567, hf⟩ := ol_e hf
                                                                  refine g_iinc (j := 3) (w := 5) (lv2 := [(0, .ref b), (1, .ref (ad 0)), (2, .ref (ad 98)), (3, .int v567)]) C dL_law_1363 rfl (by decide) ev567 (by decide) [1, 2, 3, 0] rfl ?_
                                                                  refine g_goto (tgt := 18) C dL_law_1366 (by decide) ?_
                                                                  exact g_sub [0, 1, 2, 3] rfl (hs_18 σ565 v567 hf)
                                                                · skip
                                                                  rcases oi_e hf with ⟨c568, hf⟩ | ⟨c568, hf⟩
                                                                  · refine g_tin (tgt := 1096) C dL_law_32 (by rw [c568]; decide) (by rw [c568]; decide) (by rw [c568]; rfl) (by decide) ?_
                                                                    refine g_aload_n C dL_law_1096 rfl 1 rfl ?_
                                                                    refine g_aload_n C dL_law_1097 rfl 0 rfl ?_
                                                                    refine g_iload_n C dL_law_1098 rfl 3 rfl ?_
                                                                    refine g_iconst (v := 1) C dL_law_1099 (by decide) ?_
                                                                    refine g_iadd C dL_law_1100 ?_
                                                                    obtain ⟨v569, ev569, hf⟩ := ol_e hf
                                                                    refine g_nm ev569 ?_
                                                                    obtain ⟨h570, hf⟩ := og_e hf
                                                                    refine g_sld C hX hbl hbA h570 dL_law_1101 ?_
                                                                    obtain ⟨v571, ev571, hf⟩ := ol_e hf
                                                                    refine g_nm ev571 ?_
                                                                    obtain ⟨r572, σ573, h574, hf⟩ := obp_e hf
                                                                    refine g_callVi (As := [.int v571]) (rest := []) C (a_0 ad cy _) rfl (c_X10_fits l dC dI ad cy v571) h574 hM_L_142 cal_X10_fits ⟨Nat.le_of_ble_eq_true rfl, Nat.le_of_ble_eq_true rfl⟩ ⟨rfl, rfl⟩ ⟨Nat.le_of_ble_eq_true rfl, Nat.le_of_ble_eq_true rfl⟩ rfl rfl (Nat.le_of_ble_eq_true rfl) dL_law_1102 ?_
                                                                    refine g_pop C dL_law_1105 rfl ?_
                                                                    refine g_aload_n C dL_law_1106 rfl 2 rfl ?_
                                                                    refine g_aload_n C dL_law_1107 rfl 0 rfl ?_
                                                                    refine g_iload_n C dL_law_1108 rfl 3 rfl ?_
                                                                    refine g_iconst (v := 1) C dL_law_1109 (by decide) ?_
                                                                    refine g_iadd C dL_law_1110 ?_
                                                                    obtain ⟨v575, ev575, hf⟩ := ol_e hf
                                                                    refine g_nm ev575 ?_
                                                                    obtain ⟨h576, hf⟩ := og_e hf
                                                                    refine g_sld C hX hbl hbA h576 dL_law_1111 ?_
                                                                    obtain ⟨v577, ev577, hf⟩ := ol_e hf
                                                                    refine g_nm ev577 ?_
                                                                    obtain ⟨r578, σ579, h580, hf⟩ := obp_e hf
                                                                    refine g_callVi (As := [.int v577]) (rest := []) C (a_98 ad cy _) rfl (c_X11_fits l dC dI ad cy v577) h580 hM_L_145 cal_X11_fits ⟨Nat.le_of_ble_eq_true rfl, Nat.le_of_ble_eq_true rfl⟩ ⟨rfl, rfl⟩ ⟨Nat.le_of_ble_eq_true rfl, Nat.le_of_ble_eq_true rfl⟩ rfl rfl (Nat.le_of_ble_eq_true rfl) dL_law_1112 ?_
                                                                    refine g_pop C dL_law_1115 rfl ?_
                                                                    refine g_goto (tgt := 1363) C dL_law_1116 (by decide) ?_
                                                                    obtain ⟨v581, ev581, hf⟩ := ol_e hf
                                                                    refine g_iinc (j := 3) (w := 5) (lv2 := [(0, .ref b), (1, .ref (ad 0)), (2, .ref (ad 98)), (3, .int v581)]) C dL_law_1363 rfl (by decide) ev581 (by decide) [1, 2, 3, 0] rfl ?_
                                                                    refine g_goto (tgt := 18) C dL_law_1366 (by decide) ?_
                                                                    exact g_sub [0, 1, 2, 3] rfl (hs_18 σ579 v581 hf)
                                                                  · skip
                                                                    rcases oi_e hf with ⟨c582, hf⟩ | ⟨c582, hf⟩
                                                                    · refine g_tin (tgt := 1119) C dL_law_32 (by rw [c582]; decide) (by rw [c582]; decide) (by rw [c582]; rfl) (by decide) ?_
                                                                      refine g_aload_n C dL_law_1119 rfl 1 rfl ?_
                                                                      refine g_aload_n C dL_law_1120 rfl 0 rfl ?_
                                                                      refine g_iload_n C dL_law_1121 rfl 3 rfl ?_
                                                                      refine g_iconst (v := 1) C dL_law_1122 (by decide) ?_
                                                                      refine g_iadd C dL_law_1123 ?_
                                                                      obtain ⟨v583, ev583, hf⟩ := ol_e hf
                                                                      refine g_nm ev583 ?_
                                                                      obtain ⟨h584, hf⟩ := og_e hf
                                                                      refine g_sld C hX hbl hbA h584 dL_law_1124 ?_
                                                                      obtain ⟨v585, ev585, hf⟩ := ol_e hf
                                                                      refine g_nm ev585 ?_
                                                                      obtain ⟨r586, σ587, h588, hf⟩ := obp_e hf
                                                                      refine g_callVi (As := [.int v585]) (rest := []) C (a_0 ad cy _) rfl (c_X10_which l dC dI ad cy v585) h588 hM_L_146 cal_X10_which ⟨Nat.le_of_ble_eq_true rfl, Nat.le_of_ble_eq_true rfl⟩ ⟨rfl, rfl⟩ ⟨Nat.le_of_ble_eq_true rfl, Nat.le_of_ble_eq_true rfl⟩ rfl rfl (Nat.le_of_ble_eq_true rfl) dL_law_1125 ?_
                                                                      refine g_pop C dL_law_1128 rfl ?_
                                                                      refine g_aload_n C dL_law_1129 rfl 2 rfl ?_
                                                                      refine g_aload_n C dL_law_1130 rfl 0 rfl ?_
                                                                      refine g_iload_n C dL_law_1131 rfl 3 rfl ?_
                                                                      refine g_iconst (v := 1) C dL_law_1132 (by decide) ?_
                                                                      refine g_iadd C dL_law_1133 ?_
                                                                      obtain ⟨v589, ev589, hf⟩ := ol_e hf
                                                                      refine g_nm ev589 ?_
                                                                      obtain ⟨h590, hf⟩ := og_e hf
                                                                      refine g_sld C hX hbl hbA h590 dL_law_1134 ?_
                                                                      obtain ⟨v591, ev591, hf⟩ := ol_e hf
                                                                      refine g_nm ev591 ?_
                                                                      obtain ⟨r592, σ593, h594, hf⟩ := obp_e hf
                                                                      refine g_callVi (As := [.int v591]) (rest := []) C (a_98 ad cy _) rfl (c_X11_which l dC dI ad cy v591) h594 hM_L_149 cal_X11_which ⟨Nat.le_of_ble_eq_true rfl, Nat.le_of_ble_eq_true rfl⟩ ⟨rfl, rfl⟩ ⟨Nat.le_of_ble_eq_true rfl, Nat.le_of_ble_eq_true rfl⟩ rfl rfl (Nat.le_of_ble_eq_true rfl) dL_law_1135 ?_
                                                                      refine g_pop C dL_law_1138 rfl ?_
                                                                      refine g_goto (tgt := 1363) C dL_law_1139 (by decide) ?_
                                                                      obtain ⟨v595, ev595, hf⟩ := ol_e hf
                                                                      refine g_iinc (j := 3) (w := 5) (lv2 := [(0, .ref b), (1, .ref (ad 0)), (2, .ref (ad 98)), (3, .int v595)]) C dL_law_1363 rfl (by decide) ev595 (by decide) [1, 2, 3, 0] rfl ?_
                                                                      refine g_goto (tgt := 18) C dL_law_1366 (by decide) ?_
                                                                      exact g_sub [0, 1, 2, 3] rfl (hs_18 σ593 v595 hf)
                                                                    · skip
                                                                      rcases oi_e hf with ⟨c596, hf⟩ | ⟨c596, hf⟩
                                                                      · refine g_tin (tgt := 1142) C dL_law_32 (by rw [c596]; decide) (by rw [c596]; decide) (by rw [c596]; rfl) (by decide) ?_
                                                                        refine g_aload_n C dL_law_1142 rfl 1 rfl ?_
                                                                        refine g_aload_n C dL_law_1143 rfl 0 rfl ?_
                                                                        refine g_iload_n C dL_law_1144 rfl 3 rfl ?_
                                                                        refine g_iconst (v := 1) C dL_law_1145 (by decide) ?_
                                                                        refine g_iadd C dL_law_1146 ?_
                                                                        obtain ⟨v597, ev597, hf⟩ := ol_e hf
                                                                        refine g_nm ev597 ?_
                                                                        obtain ⟨h598, hf⟩ := og_e hf
                                                                        refine g_sld C hX hbl hbA h598 dL_law_1147 ?_
                                                                        obtain ⟨v599, ev599, hf⟩ := ol_e hf
                                                                        refine g_nm ev599 ?_
                                                                        obtain ⟨r600, σ601, h602, hf⟩ := obp_e hf
                                                                        refine g_callVi (As := [.int v599]) (rest := []) C (a_0 ad cy _) rfl (c_X10_keep l dC dI ad cy v599) h602 hM_L_150 cal_X10_keep ⟨Nat.le_of_ble_eq_true rfl, Nat.le_of_ble_eq_true rfl⟩ ⟨rfl, rfl⟩ ⟨Nat.le_of_ble_eq_true rfl, Nat.le_of_ble_eq_true rfl⟩ rfl rfl (Nat.le_of_ble_eq_true rfl) dL_law_1148 ?_
                                                                        refine g_pop C dL_law_1151 rfl ?_
                                                                        refine g_aload_n C dL_law_1152 rfl 2 rfl ?_
                                                                        refine g_aload_n C dL_law_1153 rfl 0 rfl ?_
                                                                        refine g_iload_n C dL_law_1154 rfl 3 rfl ?_
                                                                        refine g_iconst (v := 1) C dL_law_1155 (by decide) ?_
                                                                        refine g_iadd C dL_law_1156 ?_
                                                                        obtain ⟨v603, ev603, hf⟩ := ol_e hf
                                                                        refine g_nm ev603 ?_
                                                                        obtain ⟨h604, hf⟩ := og_e hf
                                                                        refine g_sld C hX hbl hbA h604 dL_law_1157 ?_
                                                                        obtain ⟨v605, ev605, hf⟩ := ol_e hf
                                                                        refine g_nm ev605 ?_
                                                                        obtain ⟨r606, σ607, h608, hf⟩ := obp_e hf
                                                                        refine g_callVi (As := [.int v605]) (rest := []) C (a_98 ad cy _) rfl (c_X11_keep l dC dI ad cy v605) h608 hM_L_153 cal_X11_keep ⟨Nat.le_of_ble_eq_true rfl, Nat.le_of_ble_eq_true rfl⟩ ⟨rfl, rfl⟩ ⟨Nat.le_of_ble_eq_true rfl, Nat.le_of_ble_eq_true rfl⟩ rfl rfl (Nat.le_of_ble_eq_true rfl) dL_law_1158 ?_
                                                                        refine g_pop C dL_law_1161 rfl ?_
                                                                        refine g_goto (tgt := 1363) C dL_law_1162 (by decide) ?_
                                                                        obtain ⟨v609, ev609, hf⟩ := ol_e hf
                                                                        refine g_iinc (j := 3) (w := 5) (lv2 := [(0, .ref b), (1, .ref (ad 0)), (2, .ref (ad 98)), (3, .int v609)]) C dL_law_1363 rfl (by decide) ev609 (by decide) [1, 2, 3, 0] rfl ?_
                                                                        refine g_goto (tgt := 18) C dL_law_1366 (by decide) ?_
                                                                        exact g_sub [0, 1, 2, 3] rfl (hs_18 σ607 v609 hf)
                                                                      · skip
                                                                        rcases oi_e hf with ⟨c610, hf⟩ | ⟨c610, hf⟩
                                                                        · refine g_tin (tgt := 1165) C dL_law_32 (by rw [c610]; decide) (by rw [c610]; decide) (by rw [c610]; rfl) (by decide) ?_
                                                                          refine g_aload_n C dL_law_1165 rfl 1 rfl ?_
                                                                          refine g_aload_n C dL_law_1166 rfl 0 rfl ?_
                                                                          refine g_iload_n C dL_law_1167 rfl 3 rfl ?_
                                                                          refine g_iconst (v := 1) C dL_law_1168 (by decide) ?_
                                                                          refine g_iadd C dL_law_1169 ?_
                                                                          obtain ⟨v611, ev611, hf⟩ := ol_e hf
                                                                          refine g_nm ev611 ?_
                                                                          obtain ⟨h612, hf⟩ := og_e hf
                                                                          refine g_sld C hX hbl hbA h612 dL_law_1170 ?_
                                                                          obtain ⟨v613, ev613, hf⟩ := ol_e hf
                                                                          refine g_nm ev613 ?_
                                                                          obtain ⟨r614, σ615, h616, hf⟩ := obp_e hf
                                                                          refine g_callVi (As := [.int v613]) (rest := []) C (a_0 ad cy _) rfl (c_X10_back l dC dI ad cy v613) h616 hM_L_154 cal_X10_back ⟨Nat.le_of_ble_eq_true rfl, Nat.le_of_ble_eq_true rfl⟩ ⟨rfl, rfl⟩ ⟨Nat.le_of_ble_eq_true rfl, Nat.le_of_ble_eq_true rfl⟩ rfl rfl (Nat.le_of_ble_eq_true rfl) dL_law_1171 ?_
                                                                          refine g_pop C dL_law_1174 rfl ?_
                                                                          refine g_aload_n C dL_law_1175 rfl 2 rfl ?_
                                                                          refine g_aload_n C dL_law_1176 rfl 0 rfl ?_
                                                                          refine g_iload_n C dL_law_1177 rfl 3 rfl ?_
                                                                          refine g_iconst (v := 1) C dL_law_1178 (by decide) ?_
                                                                          refine g_iadd C dL_law_1179 ?_
                                                                          obtain ⟨v617, ev617, hf⟩ := ol_e hf
                                                                          refine g_nm ev617 ?_
                                                                          obtain ⟨h618, hf⟩ := og_e hf
                                                                          refine g_sld C hX hbl hbA h618 dL_law_1180 ?_
                                                                          obtain ⟨v619, ev619, hf⟩ := ol_e hf
                                                                          refine g_nm ev619 ?_
                                                                          obtain ⟨r620, σ621, h622, hf⟩ := obp_e hf
                                                                          refine g_callVi (As := [.int v619]) (rest := []) C (a_98 ad cy _) rfl (c_X11_back l dC dI ad cy v619) h622 hM_L_157 cal_X11_back ⟨Nat.le_of_ble_eq_true rfl, Nat.le_of_ble_eq_true rfl⟩ ⟨rfl, rfl⟩ ⟨Nat.le_of_ble_eq_true rfl, Nat.le_of_ble_eq_true rfl⟩ rfl rfl (Nat.le_of_ble_eq_true rfl) dL_law_1181 ?_
                                                                          refine g_pop C dL_law_1184 rfl ?_
                                                                          refine g_goto (tgt := 1363) C dL_law_1185 (by decide) ?_
                                                                          obtain ⟨v623, ev623, hf⟩ := ol_e hf
                                                                          refine g_iinc (j := 3) (w := 5) (lv2 := [(0, .ref b), (1, .ref (ad 0)), (2, .ref (ad 98)), (3, .int v623)]) C dL_law_1363 rfl (by decide) ev623 (by decide) [1, 2, 3, 0] rfl ?_
                                                                          refine g_goto (tgt := 18) C dL_law_1366 (by decide) ?_
                                                                          exact g_sub [0, 1, 2, 3] rfl (hs_18 σ621 v623 hf)
                                                                        · skip
                                                                          rcases oi_e hf with ⟨c624, hf⟩ | ⟨c624, hf⟩
                                                                          · refine g_tin (tgt := 1188) C dL_law_32 (by rw [c624]; decide) (by rw [c624]; decide) (by rw [c624]; rfl) (by decide) ?_
                                                                            refine g_aload_n C dL_law_1188 rfl 1 rfl ?_
                                                                            refine g_aload_n C dL_law_1189 rfl 0 rfl ?_
                                                                            refine g_iload_n C dL_law_1190 rfl 3 rfl ?_
                                                                            refine g_iconst (v := 1) C dL_law_1191 (by decide) ?_
                                                                            refine g_iadd C dL_law_1192 ?_
                                                                            obtain ⟨v625, ev625, hf⟩ := ol_e hf
                                                                            refine g_nm ev625 ?_
                                                                            obtain ⟨h626, hf⟩ := og_e hf
                                                                            refine g_sld C hX hbl hbA h626 dL_law_1193 ?_
                                                                            obtain ⟨v627, ev627, hf⟩ := ol_e hf
                                                                            refine g_nm ev627 ?_
                                                                            refine g_aload_n C dL_law_1194 rfl 0 rfl ?_
                                                                            refine g_iload_n C dL_law_1195 rfl 3 rfl ?_
                                                                            refine g_iconst (v := 2) C dL_law_1196 (by decide) ?_
                                                                            refine g_iadd C dL_law_1197 ?_
                                                                            obtain ⟨v628, ev628, hf⟩ := ol_e hf
                                                                            refine g_nm ev628 ?_
                                                                            obtain ⟨h629, hf⟩ := og_e hf
                                                                            refine g_sld C hX hbl hbA h629 dL_law_1198 ?_
                                                                            obtain ⟨v630, ev630, hf⟩ := ol_e hf
                                                                            refine g_nm ev630 ?_
                                                                            refine g_aload_n C dL_law_1199 rfl 0 rfl ?_
                                                                            refine g_iload_n C dL_law_1200 rfl 3 rfl ?_
                                                                            refine g_iconst (v := 3) C dL_law_1201 (by decide) ?_
                                                                            refine g_iadd C dL_law_1202 ?_
                                                                            obtain ⟨v631, ev631, hf⟩ := ol_e hf
                                                                            refine g_nm ev631 ?_
                                                                            obtain ⟨h632, hf⟩ := og_e hf
                                                                            refine g_sld C hX hbl hbA h632 dL_law_1203 ?_
                                                                            obtain ⟨v633, ev633, hf⟩ := ol_e hf
                                                                            refine g_nm ev633 ?_
                                                                            obtain ⟨r634, σ635, h636, hf⟩ := obp_e hf
                                                                            refine g_callVi (As := [.int v627, .int v630, .int v633]) (rest := []) C (a_0 ad cy _) rfl (c_X10_sheet l dC dI ad cy v627 v630 v633) h636 hM_L_158 cal_X10_sheet ⟨Nat.le_of_ble_eq_true rfl, Nat.le_of_ble_eq_true rfl⟩ ⟨rfl, rfl⟩ ⟨Nat.le_of_ble_eq_true rfl, Nat.le_of_ble_eq_true rfl⟩ rfl rfl (Nat.le_of_ble_eq_true rfl) dL_law_1204 ?_
                                                                            refine g_pop C dL_law_1207 rfl ?_
                                                                            refine g_aload_n C dL_law_1208 rfl 2 rfl ?_
                                                                            refine g_aload_n C dL_law_1209 rfl 0 rfl ?_
                                                                            refine g_iload_n C dL_law_1210 rfl 3 rfl ?_
                                                                            refine g_iconst (v := 1) C dL_law_1211 (by decide) ?_
                                                                            refine g_iadd C dL_law_1212 ?_
                                                                            obtain ⟨v637, ev637, hf⟩ := ol_e hf
                                                                            refine g_nm ev637 ?_
                                                                            obtain ⟨h638, hf⟩ := og_e hf
                                                                            refine g_sld C hX hbl hbA h638 dL_law_1213 ?_
                                                                            obtain ⟨v639, ev639, hf⟩ := ol_e hf
                                                                            refine g_nm ev639 ?_
                                                                            refine g_aload_n C dL_law_1214 rfl 0 rfl ?_
                                                                            refine g_iload_n C dL_law_1215 rfl 3 rfl ?_
                                                                            refine g_iconst (v := 2) C dL_law_1216 (by decide) ?_
                                                                            refine g_iadd C dL_law_1217 ?_
                                                                            obtain ⟨v640, ev640, hf⟩ := ol_e hf
                                                                            refine g_nm ev640 ?_
                                                                            obtain ⟨h641, hf⟩ := og_e hf
                                                                            refine g_sld C hX hbl hbA h641 dL_law_1218 ?_
                                                                            obtain ⟨v642, ev642, hf⟩ := ol_e hf
                                                                            refine g_nm ev642 ?_
                                                                            refine g_aload_n C dL_law_1219 rfl 0 rfl ?_
                                                                            refine g_iload_n C dL_law_1220 rfl 3 rfl ?_
                                                                            refine g_iconst (v := 3) C dL_law_1221 (by decide) ?_
                                                                            refine g_iadd C dL_law_1222 ?_
                                                                            obtain ⟨v643, ev643, hf⟩ := ol_e hf
                                                                            refine g_nm ev643 ?_
                                                                            obtain ⟨h644, hf⟩ := og_e hf
                                                                            refine g_sld C hX hbl hbA h644 dL_law_1223 ?_
                                                                            obtain ⟨v645, ev645, hf⟩ := ol_e hf
                                                                            refine g_nm ev645 ?_
                                                                            obtain ⟨r646, σ647, h648, hf⟩ := obp_e hf
                                                                            refine g_callVi (As := [.int v639, .int v642, .int v645]) (rest := []) C (a_98 ad cy _) rfl (c_X11_sheet l dC dI ad cy v639 v642 v645) h648 hM_L_161 cal_X11_sheet ⟨Nat.le_of_ble_eq_true rfl, Nat.le_of_ble_eq_true rfl⟩ ⟨rfl, rfl⟩ ⟨Nat.le_of_ble_eq_true rfl, Nat.le_of_ble_eq_true rfl⟩ rfl rfl (Nat.le_of_ble_eq_true rfl) dL_law_1224 ?_
                                                                            refine g_pop C dL_law_1227 rfl ?_
                                                                            refine g_goto (tgt := 1363) C dL_law_1228 (by decide) ?_
                                                                            obtain ⟨v649, ev649, hf⟩ := ol_e hf
                                                                            refine g_iinc (j := 3) (w := 5) (lv2 := [(0, .ref b), (1, .ref (ad 0)), (2, .ref (ad 98)), (3, .int v649)]) C dL_law_1363 rfl (by decide) ev649 (by decide) [1, 2, 3, 0] rfl ?_
                                                                            refine g_goto (tgt := 18) C dL_law_1366 (by decide) ?_
                                                                            exact g_sub [0, 1, 2, 3] rfl (hs_18 σ647 v649 hf)
                                                                          · skip
                                                                            rcases oi_e hf with ⟨c650, hf⟩ | ⟨c650, hf⟩
                                                                            · refine g_tin (tgt := 1231) C dL_law_32 (by rw [c650]; decide) (by rw [c650]; decide) (by rw [c650]; rfl) (by decide) ?_
                                                                              refine g_aload_n C dL_law_1231 rfl 1 rfl ?_
                                                                              refine g_aload_n C dL_law_1232 rfl 0 rfl ?_
                                                                              refine g_iload_n C dL_law_1233 rfl 3 rfl ?_
                                                                              refine g_iconst (v := 1) C dL_law_1234 (by decide) ?_
                                                                              refine g_iadd C dL_law_1235 ?_
                                                                              obtain ⟨v651, ev651, hf⟩ := ol_e hf
                                                                              refine g_nm ev651 ?_
                                                                              obtain ⟨h652, hf⟩ := og_e hf
                                                                              refine g_sld C hX hbl hbA h652 dL_law_1236 ?_
                                                                              obtain ⟨v653, ev653, hf⟩ := ol_e hf
                                                                              refine g_nm ev653 ?_
                                                                              refine g_aload_n C dL_law_1237 rfl 0 rfl ?_
                                                                              refine g_iload_n C dL_law_1238 rfl 3 rfl ?_
                                                                              refine g_iconst (v := 2) C dL_law_1239 (by decide) ?_
                                                                              refine g_iadd C dL_law_1240 ?_
                                                                              obtain ⟨v654, ev654, hf⟩ := ol_e hf
                                                                              refine g_nm ev654 ?_
                                                                              obtain ⟨h655, hf⟩ := og_e hf
                                                                              refine g_sld C hX hbl hbA h655 dL_law_1241 ?_
                                                                              obtain ⟨v656, ev656, hf⟩ := ol_e hf
                                                                              refine g_nm ev656 ?_
                                                                              refine g_aload_n C dL_law_1242 rfl 0 rfl ?_
                                                                              refine g_iload_n C dL_law_1243 rfl 3 rfl ?_
                                                                              refine g_iconst (v := 3) C dL_law_1244 (by decide) ?_
                                                                              refine g_iadd C dL_law_1245 ?_
                                                                              obtain ⟨v657, ev657, hf⟩ := ol_e hf
                                                                              refine g_nm ev657 ?_
                                                                              obtain ⟨h658, hf⟩ := og_e hf
                                                                              refine g_sld C hX hbl hbA h658 dL_law_1246 ?_
                                                                              obtain ⟨v659, ev659, hf⟩ := ol_e hf
                                                                              refine g_nm ev659 ?_
                                                                              obtain ⟨r660, σ661, h662, hf⟩ := obp_e hf
                                                                              refine g_callVi (As := [.int v653, .int v656, .int v659]) (rest := []) C (a_0 ad cy _) rfl (c_X10_lay l dC dI ad cy v653 v656 v659) h662 hM_L_162 cal_X10_lay ⟨Nat.le_of_ble_eq_true rfl, Nat.le_of_ble_eq_true rfl⟩ ⟨rfl, rfl⟩ ⟨Nat.le_of_ble_eq_true rfl, Nat.le_of_ble_eq_true rfl⟩ rfl rfl (Nat.le_of_ble_eq_true rfl) dL_law_1247 ?_
                                                                              refine g_pop C dL_law_1250 rfl ?_
                                                                              refine g_aload_n C dL_law_1251 rfl 2 rfl ?_
                                                                              refine g_aload_n C dL_law_1252 rfl 0 rfl ?_
                                                                              refine g_iload_n C dL_law_1253 rfl 3 rfl ?_
                                                                              refine g_iconst (v := 1) C dL_law_1254 (by decide) ?_
                                                                              refine g_iadd C dL_law_1255 ?_
                                                                              obtain ⟨v663, ev663, hf⟩ := ol_e hf
                                                                              refine g_nm ev663 ?_
                                                                              obtain ⟨h664, hf⟩ := og_e hf
                                                                              refine g_sld C hX hbl hbA h664 dL_law_1256 ?_
                                                                              obtain ⟨v665, ev665, hf⟩ := ol_e hf
                                                                              refine g_nm ev665 ?_
                                                                              refine g_aload_n C dL_law_1257 rfl 0 rfl ?_
                                                                              refine g_iload_n C dL_law_1258 rfl 3 rfl ?_
                                                                              refine g_iconst (v := 2) C dL_law_1259 (by decide) ?_
                                                                              refine g_iadd C dL_law_1260 ?_
                                                                              obtain ⟨v666, ev666, hf⟩ := ol_e hf
                                                                              refine g_nm ev666 ?_
                                                                              obtain ⟨h667, hf⟩ := og_e hf
                                                                              refine g_sld C hX hbl hbA h667 dL_law_1261 ?_
                                                                              obtain ⟨v668, ev668, hf⟩ := ol_e hf
                                                                              refine g_nm ev668 ?_
                                                                              refine g_aload_n C dL_law_1262 rfl 0 rfl ?_
                                                                              refine g_iload_n C dL_law_1263 rfl 3 rfl ?_
                                                                              refine g_iconst (v := 3) C dL_law_1264 (by decide) ?_
                                                                              refine g_iadd C dL_law_1265 ?_
                                                                              obtain ⟨v669, ev669, hf⟩ := ol_e hf
                                                                              refine g_nm ev669 ?_
                                                                              obtain ⟨h670, hf⟩ := og_e hf
                                                                              refine g_sld C hX hbl hbA h670 dL_law_1266 ?_
                                                                              obtain ⟨v671, ev671, hf⟩ := ol_e hf
                                                                              refine g_nm ev671 ?_
                                                                              obtain ⟨r672, σ673, h674, hf⟩ := obp_e hf
                                                                              refine g_callVi (As := [.int v665, .int v668, .int v671]) (rest := []) C (a_98 ad cy _) rfl (c_X11_lay l dC dI ad cy v665 v668 v671) h674 hM_L_165 cal_X11_lay ⟨Nat.le_of_ble_eq_true rfl, Nat.le_of_ble_eq_true rfl⟩ ⟨rfl, rfl⟩ ⟨Nat.le_of_ble_eq_true rfl, Nat.le_of_ble_eq_true rfl⟩ rfl rfl (Nat.le_of_ble_eq_true rfl) dL_law_1267 ?_
                                                                              refine g_pop C dL_law_1270 rfl ?_
                                                                              refine g_goto (tgt := 1363) C dL_law_1271 (by decide) ?_
                                                                              obtain ⟨v675, ev675, hf⟩ := ol_e hf
                                                                              refine g_iinc (j := 3) (w := 5) (lv2 := [(0, .ref b), (1, .ref (ad 0)), (2, .ref (ad 98)), (3, .int v675)]) C dL_law_1363 rfl (by decide) ev675 (by decide) [1, 2, 3, 0] rfl ?_
                                                                              refine g_goto (tgt := 18) C dL_law_1366 (by decide) ?_
                                                                              exact g_sub [0, 1, 2, 3] rfl (hs_18 σ673 v675 hf)
                                                                            · skip
                                                                              rcases oi_e hf with ⟨c676, hf⟩ | ⟨c676, hf⟩
                                                                              · refine g_tin (tgt := 1274) C dL_law_32 (by rw [c676]; decide) (by rw [c676]; decide) (by rw [c676]; rfl) (by decide) ?_
                                                                                refine g_aload_n C dL_law_1274 rfl 1 rfl ?_
                                                                                refine g_aload_n C dL_law_1275 rfl 0 rfl ?_
                                                                                refine g_iload_n C dL_law_1276 rfl 3 rfl ?_
                                                                                refine g_iconst (v := 1) C dL_law_1277 (by decide) ?_
                                                                                refine g_iadd C dL_law_1278 ?_
                                                                                obtain ⟨v677, ev677, hf⟩ := ol_e hf
                                                                                refine g_nm ev677 ?_
                                                                                obtain ⟨h678, hf⟩ := og_e hf
                                                                                refine g_sld C hX hbl hbA h678 dL_law_1279 ?_
                                                                                obtain ⟨v679, ev679, hf⟩ := ol_e hf
                                                                                refine g_nm ev679 ?_
                                                                                refine g_aload_n C dL_law_1280 rfl 0 rfl ?_
                                                                                refine g_iload_n C dL_law_1281 rfl 3 rfl ?_
                                                                                refine g_iconst (v := 2) C dL_law_1282 (by decide) ?_
                                                                                refine g_iadd C dL_law_1283 ?_
                                                                                obtain ⟨v680, ev680, hf⟩ := ol_e hf
                                                                                refine g_nm ev680 ?_
                                                                                obtain ⟨h681, hf⟩ := og_e hf
                                                                                refine g_sld C hX hbl hbA h681 dL_law_1284 ?_
                                                                                obtain ⟨v682, ev682, hf⟩ := ol_e hf
                                                                                refine g_nm ev682 ?_
                                                                                refine g_aload_n C dL_law_1285 rfl 0 rfl ?_
                                                                                refine g_iload_n C dL_law_1286 rfl 3 rfl ?_
                                                                                refine g_iconst (v := 3) C dL_law_1287 (by decide) ?_
                                                                                refine g_iadd C dL_law_1288 ?_
                                                                                obtain ⟨v683, ev683, hf⟩ := ol_e hf
                                                                                refine g_nm ev683 ?_
                                                                                obtain ⟨h684, hf⟩ := og_e hf
                                                                                refine g_sld C hX hbl hbA h684 dL_law_1289 ?_
                                                                                obtain ⟨v685, ev685, hf⟩ := ol_e hf
                                                                                refine g_nm ev685 ?_
                                                                                refine g_aload_n C dL_law_1290 rfl 0 rfl ?_
                                                                                refine g_iload_n C dL_law_1291 rfl 3 rfl ?_
                                                                                refine g_iconst (v := 4) C dL_law_1292 (by decide) ?_
                                                                                refine g_iadd C dL_law_1293 ?_
                                                                                obtain ⟨v686, ev686, hf⟩ := ol_e hf
                                                                                refine g_nm ev686 ?_
                                                                                obtain ⟨h687, hf⟩ := og_e hf
                                                                                refine g_sld C hX hbl hbA h687 dL_law_1294 ?_
                                                                                obtain ⟨v688, ev688, hf⟩ := ol_e hf
                                                                                refine g_nm ev688 ?_
                                                                                obtain ⟨r689, σ690, h691, hf⟩ := obp_e hf
                                                                                refine g_callVi (As := [.int v679, .int v682, .int v685, .int v688]) (rest := []) C (a_0 ad cy _) rfl (c_X10_read l dC dI ad cy v679 v682 v685 v688) h691 hM_L_166 cal_X10_read ⟨Nat.le_of_ble_eq_true rfl, Nat.le_of_ble_eq_true rfl⟩ ⟨rfl, rfl⟩ ⟨Nat.le_of_ble_eq_true rfl, Nat.le_of_ble_eq_true rfl⟩ rfl rfl (Nat.le_of_ble_eq_true rfl) dL_law_1295 ?_
                                                                                refine g_pop C dL_law_1298 rfl ?_
                                                                                refine g_aload_n C dL_law_1299 rfl 2 rfl ?_
                                                                                refine g_aload_n C dL_law_1300 rfl 0 rfl ?_
                                                                                refine g_iload_n C dL_law_1301 rfl 3 rfl ?_
                                                                                refine g_iconst (v := 1) C dL_law_1302 (by decide) ?_
                                                                                refine g_iadd C dL_law_1303 ?_
                                                                                obtain ⟨v692, ev692, hf⟩ := ol_e hf
                                                                                refine g_nm ev692 ?_
                                                                                obtain ⟨h693, hf⟩ := og_e hf
                                                                                refine g_sld C hX hbl hbA h693 dL_law_1304 ?_
                                                                                obtain ⟨v694, ev694, hf⟩ := ol_e hf
                                                                                refine g_nm ev694 ?_
                                                                                refine g_aload_n C dL_law_1305 rfl 0 rfl ?_
                                                                                refine g_iload_n C dL_law_1306 rfl 3 rfl ?_
                                                                                refine g_iconst (v := 2) C dL_law_1307 (by decide) ?_
                                                                                refine g_iadd C dL_law_1308 ?_
                                                                                obtain ⟨v695, ev695, hf⟩ := ol_e hf
                                                                                refine g_nm ev695 ?_
                                                                                obtain ⟨h696, hf⟩ := og_e hf
                                                                                refine g_sld C hX hbl hbA h696 dL_law_1309 ?_
                                                                                obtain ⟨v697, ev697, hf⟩ := ol_e hf
                                                                                refine g_nm ev697 ?_
                                                                                refine g_aload_n C dL_law_1310 rfl 0 rfl ?_
                                                                                refine g_iload_n C dL_law_1311 rfl 3 rfl ?_
                                                                                refine g_iconst (v := 3) C dL_law_1312 (by decide) ?_
                                                                                refine g_iadd C dL_law_1313 ?_
                                                                                obtain ⟨v698, ev698, hf⟩ := ol_e hf
                                                                                refine g_nm ev698 ?_
                                                                                obtain ⟨h699, hf⟩ := og_e hf
                                                                                refine g_sld C hX hbl hbA h699 dL_law_1314 ?_
                                                                                obtain ⟨v700, ev700, hf⟩ := ol_e hf
                                                                                refine g_nm ev700 ?_
                                                                                refine g_aload_n C dL_law_1315 rfl 0 rfl ?_
                                                                                refine g_iload_n C dL_law_1316 rfl 3 rfl ?_
                                                                                refine g_iconst (v := 4) C dL_law_1317 (by decide) ?_
                                                                                refine g_iadd C dL_law_1318 ?_
                                                                                obtain ⟨v701, ev701, hf⟩ := ol_e hf
                                                                                refine g_nm ev701 ?_
                                                                                obtain ⟨h702, hf⟩ := og_e hf
                                                                                refine g_sld C hX hbl hbA h702 dL_law_1319 ?_
                                                                                obtain ⟨v703, ev703, hf⟩ := ol_e hf
                                                                                refine g_nm ev703 ?_
                                                                                obtain ⟨r704, σ705, h706, hf⟩ := obp_e hf
                                                                                refine g_callVi (As := [.int v694, .int v697, .int v700, .int v703]) (rest := []) C (a_98 ad cy _) rfl (c_X11_read l dC dI ad cy v694 v697 v700 v703) h706 hM_L_170 cal_X11_read ⟨Nat.le_of_ble_eq_true rfl, Nat.le_of_ble_eq_true rfl⟩ ⟨rfl, rfl⟩ ⟨Nat.le_of_ble_eq_true rfl, Nat.le_of_ble_eq_true rfl⟩ rfl rfl (Nat.le_of_ble_eq_true rfl) dL_law_1320 ?_
                                                                                refine g_pop C dL_law_1323 rfl ?_
                                                                                refine g_goto (tgt := 1363) C dL_law_1324 (by decide) ?_
                                                                                obtain ⟨v707, ev707, hf⟩ := ol_e hf
                                                                                refine g_iinc (j := 3) (w := 5) (lv2 := [(0, .ref b), (1, .ref (ad 0)), (2, .ref (ad 98)), (3, .int v707)]) C dL_law_1363 rfl (by decide) ev707 (by decide) [1, 2, 3, 0] rfl ?_
                                                                                refine g_goto (tgt := 18) C dL_law_1366 (by decide) ?_
                                                                                exact g_sub [0, 1, 2, 3] rfl (hs_18 σ705 v707 hf)
                                                                              · skip
                                                                                rcases oi_e hf with ⟨c708, hf⟩ | ⟨c708, hf⟩
                                                                                · refine g_tin (tgt := 1327) C dL_law_32 (by rw [c708]; decide) (by rw [c708]; decide) (by rw [c708]; rfl) (by decide) ?_
                                                                                  refine g_aload_n C dL_law_1327 rfl 1 rfl ?_
                                                                                  obtain ⟨r709, σ710, h711, hf⟩ := obp_e hf
                                                                                  refine g_callVi (As := []) (rest := []) C (a_0 ad cy _) rfl (c_X10_torn l dC dI ad cy ) h711 hM_L_171 cal_X10_torn ⟨Nat.le_of_ble_eq_true rfl, Nat.le_of_ble_eq_true rfl⟩ ⟨rfl, rfl⟩ ⟨Nat.le_of_ble_eq_true rfl, Nat.le_of_ble_eq_true rfl⟩ rfl rfl (Nat.le_of_ble_eq_true rfl) dL_law_1328 ?_
                                                                                  refine g_pop C dL_law_1331 rfl ?_
                                                                                  refine g_aload_n C dL_law_1332 rfl 2 rfl ?_
                                                                                  obtain ⟨r712, σ713, h714, hf⟩ := obp_e hf
                                                                                  refine g_callVi (As := []) (rest := []) C (a_98 ad cy _) rfl (c_X11_torn l dC dI ad cy ) h714 hM_L_174 cal_X11_torn ⟨Nat.le_of_ble_eq_true rfl, Nat.le_of_ble_eq_true rfl⟩ ⟨rfl, rfl⟩ ⟨Nat.le_of_ble_eq_true rfl, Nat.le_of_ble_eq_true rfl⟩ rfl rfl (Nat.le_of_ble_eq_true rfl) dL_law_1333 ?_
                                                                                  refine g_pop C dL_law_1336 rfl ?_
                                                                                  refine g_goto (tgt := 1363) C dL_law_1337 (by decide) ?_
                                                                                  obtain ⟨v715, ev715, hf⟩ := ol_e hf
                                                                                  refine g_iinc (j := 3) (w := 5) (lv2 := [(0, .ref b), (1, .ref (ad 0)), (2, .ref (ad 98)), (3, .int v715)]) C dL_law_1363 rfl (by decide) ev715 (by decide) [1, 2, 3, 0] rfl ?_
                                                                                  refine g_goto (tgt := 18) C dL_law_1366 (by decide) ?_
                                                                                  exact g_sub [0, 1, 2, 3] rfl (hs_18 σ713 v715 hf)
                                                                                · skip
                                                                                  rcases oi_e hf with ⟨c716, hf⟩ | ⟨c716, hf⟩
                                                                                  · refine g_tin (tgt := 1340) C dL_law_32 (by rw [c716]; decide) (by rw [c716]; decide) (by rw [c716]; rfl) (by decide) ?_
                                                                                    refine g_aload_n C dL_law_1340 rfl 1 rfl ?_
                                                                                    refine g_aload_n C dL_law_1341 rfl 0 rfl ?_
                                                                                    refine g_iload_n C dL_law_1342 rfl 3 rfl ?_
                                                                                    refine g_iconst (v := 1) C dL_law_1343 (by decide) ?_
                                                                                    refine g_iadd C dL_law_1344 ?_
                                                                                    obtain ⟨v717, ev717, hf⟩ := ol_e hf
                                                                                    refine g_nm ev717 ?_
                                                                                    obtain ⟨h718, hf⟩ := og_e hf
                                                                                    refine g_sld C hX hbl hbA h718 dL_law_1345 ?_
                                                                                    obtain ⟨v719, ev719, hf⟩ := ol_e hf
                                                                                    refine g_nm ev719 ?_
                                                                                    obtain ⟨r720, σ721, h722, hf⟩ := obp_e hf
                                                                                    refine g_callVi (As := [.int v719]) (rest := []) C (a_0 ad cy _) rfl (c_X10_count l dC dI ad cy v719) h722 hM_L_175 cal_X10_count ⟨Nat.le_of_ble_eq_true rfl, Nat.le_of_ble_eq_true rfl⟩ ⟨rfl, rfl⟩ ⟨Nat.le_of_ble_eq_true rfl, Nat.le_of_ble_eq_true rfl⟩ rfl rfl (Nat.le_of_ble_eq_true rfl) dL_law_1346 ?_
                                                                                    refine g_aload_n C dL_law_1349 rfl 2 rfl ?_
                                                                                    refine g_aload_n C dL_law_1350 rfl 0 rfl ?_
                                                                                    refine g_iload_n C dL_law_1351 rfl 3 rfl ?_
                                                                                    refine g_iconst (v := 1) C dL_law_1352 (by decide) ?_
                                                                                    refine g_iadd C dL_law_1353 ?_
                                                                                    obtain ⟨v723, ev723, hf⟩ := ol_e hf
                                                                                    refine g_nm ev723 ?_
                                                                                    obtain ⟨h724, hf⟩ := og_e hf
                                                                                    refine g_sld C hX hbl hbA h724 dL_law_1354 ?_
                                                                                    obtain ⟨v725, ev725, hf⟩ := ol_e hf
                                                                                    refine g_nm ev725 ?_
                                                                                    obtain ⟨r726, σ727, h728, hf⟩ := obp_e hf
                                                                                    refine g_callVi (As := [.int v725]) (rest := [.int r720]) C (a_98 ad cy _) rfl (c_X11_count l dC dI ad cy v725) h728 hM_L_178 cal_X11_count ⟨Nat.le_of_ble_eq_true rfl, Nat.le_of_ble_eq_true rfl⟩ ⟨rfl, rfl⟩ ⟨Nat.le_of_ble_eq_true rfl, Nat.le_of_ble_eq_true rfl⟩ rfl rfl (Nat.le_of_ble_eq_true rfl) dL_law_1355 ?_
                                                                                    rcases oi_e hf with ⟨c729, hf⟩ | ⟨c729, hf⟩
                                                                                    · refine g_icmp_eq_t (tgt := 1363) C dL_law_1358 (by decide) c729 ?_
                                                                                      obtain ⟨v730, ev730, hf⟩ := ol_e hf
                                                                                      refine g_iinc (j := 3) (w := 5) (lv2 := [(0, .ref b), (1, .ref (ad 0)), (2, .ref (ad 98)), (3, .int v730)]) C dL_law_1363 rfl (by decide) ev730 (by decide) [1, 2, 3, 0] rfl ?_
                                                                                      refine g_goto (tgt := 18) C dL_law_1366 (by decide) ?_
                                                                                      exact g_sub [0, 1, 2, 3] rfl (hs_18 σ727 v730 hf)
                                                                                    · refine g_icmp_eq_f (tgt := 1363) C dL_law_1358 (by decide) c729 ?_
                                                                                      refine g_iconst (v := 0) C dL_law_1361 (by decide) ?_
                                                                                      exact absurd (os_e hf).1 (by decide)
                                                                                  · skip
                                                                                    cases hf
def fL_h18 (xs : Nat → Int32) (L : Nat) : Nat → S0 → Int32 → Option (Int32 × S0)
  | 0 => fun _ _ => none
  | n + 1 => fun σ x3 => fL_b18 xs L (fL_h18 xs L n) σ x3
theorem fL_h18_ok {p : Program} {l : Launch} {e : Env} {s : State} {m : MethodId} {below : List Frame} {meth : Method} {c : Code} {dC : Nat → ClassId} {dI : Nat → Nat → Nat} {ad : Nat → Nat} {cy : Nat → ClassId} {z b L : Nat} {xs : Nat → Int32} (C : Cx p s m #[Value.ref b] meth c RL cL_law 4 (some .boolean) dC dI ad cy z) (hX : va_X b L xs s s.heap) (hbl : b < s.heap.size) (hbA : ¬ AW ad z b) (hlo : ∀ q, AW ad z q → s.heap.size ≤ q) {ρ : S0} : ∀ (n : Nat) (σ : S0) (x3 : Int32) (_hf : fL_h18 xs L n σ x3 = some (1, ρ)), Gw p l e room_1 s m #[Value.ref b] below meth c (lw_Z below #[Value.ref b] s) dC dI ad cy 4 z 111 2532 18 [(0, .ref b), (1, .ref (ad 0)), (2, .ref (ad 98)), (3, .int x3)] [] σ
  | 0, _, _, hf => by cases hf
  | n + 1, σ, x3, hf => fL_b18_ok C hX hbl hbA hlo (fL_h18 xs L n) (fL_h18_ok C hX hbl hbA hlo n) σ x3 hf
