section GWL
variable {p : Program} {l : Launch} {e : Env} {R : Room} {s : State} {m : MethodId} {args : Array Value} {below : List Frame} {meth : Method} {c : Code} {Q : State → Prop} {dC : Nat → ClassId} {dI : Nat → Nat → Nat} {ad : Nat → Nat} {cy : Nat → ClassId} {nL sz nc ns : Nat} {own : String} {cc : ByteArray} {ret0 : Option FieldType} {pc : Nat} {lv : List (Nat × Value)} {rest : List Value} {σ : S0} {b L : Nat} {xs : Nat → Int32}
theorem g_sld (C : Cx p s m args meth c own cc nL ret0 dC dI ad cy sz) (hX : va_X b L xs s s.heap) (hbl : b < s.heap.size) (hbA : ¬ AW ad sz b) {i : Int32} (hin : ¬ (i < 0 ∨ L ≤ i.toNatClampNeg)) (hdg : decode cc pc = .ok (.iaload, 1)) (k : Gw p l e R s m args below meth c Q dC dI ad cy nL sz nc ns (pc + 1) lv (.int (xs i.toNatClampNeg) :: rest) σ) : Gw p l e R s m args below meth c Q dC dI ad cy nL sz nc ns pc lv (.int i :: .ref b :: rest) σ := fun ls H locs hl hP hS => va_sld C.1 C.2.1 hX hbl hbA hS hin hdg (k ls H locs hl hP hS)
theorem g_slen0 (C : Cx p s m args meth c own cc nL ret0 dC dI ad cy sz) (hX : va_X b L xs s s.heap) (hbl : b < s.heap.size) (hbA : ¬ AW ad sz b) (hdg : decode cc pc = .ok (.arraylength, 1)) (k : Gw p l e R s m args below meth c Q dC dI ad cy nL sz nc ns (pc + 1) lv (.int (Int32.ofNat L) :: rest) σ) : Gw p l e R s m args below meth c Q dC dI ad cy nL sz nc ns pc lv (.ref b :: rest) σ := fun ls H locs hl hP hS => va_slen C.1 C.2.1 hX hbl hbA hS hdg (k ls H locs hl hP hS)
theorem g_lret (C : Cx p s m #[Value.ref b] meth c RL cL_law 4 (some .boolean) dC dI ad cy sz) (hlo : ∀ q, AW ad sz q → s.heap.size ≤ q) (hcs : nc ≤ 600000 ∧ ns ≤ 7302250) (hdg : decode code pc = .ok (.ireturn, 1)) : Gw p l e room_1 s m #[Value.ref b] below meth c (lw_Z below #[Value.ref b] s) dC dI ad cy 4 sz nc ns pc lv [.int 1] σ := fun ls H locs hl hP hS => va_forget (fun q hq => hlo _ (hS.2.2 q hq)) (W.widen hcs.1 hcs.2 (lw_ret C.1 C.2.1 C.2.2.2.2.2.2.2.1 C.2.2.2.2.2.2.2.2.1 hdg))
end GWL
def fL_b18 (xs : Nat → Int32) (L : Nat) (sf_18 : S0 → Int32 → Option (Int32 × S0)) (σ : S0) (x3 : Int32) : Option (Int32 × S0) := if ((Int32.ofNat L) - 5) < x3 then (some (1, σ)) else (og (¬ (x3 < 0 ∨ L ≤ x3.toNatClampNeg)) (ol (xs x3.toNatClampNeg) (fun v3 => ol (v3 &&& 63) (fun v4 => if v4.toInt < 0 ∨ 38 < v4.toInt then (ol (x3 + 5) (fun v6 => sf_18 σ v6)) else if v4 = 0 then (ol (x3 + 1) (fun v8 => og (¬ (v8 < 0 ∨ L ≤ v8.toNatClampNeg)) (ol (xs v8.toNatClampNeg) (fun v10 => ol (x3 + 2) (fun v11 => og (¬ (v11 < 0 ∨ L ≤ v11.toNatClampNeg)) (ol (xs v11.toNatClampNeg) (fun v13 => obp (fX10_feed σ ((v10.toInt64 <<< (((32 : Int32)).toInt64 &&& 63)) ||| (v13.toInt64 &&& 4294967295))) (fun r14 σ15 => ol (x3 + 1) (fun v17 => og (¬ (v17 < 0 ∨ L ≤ v17.toNatClampNeg)) (ol (xs v17.toNatClampNeg) (fun v19 => ol (x3 + 2) (fun v20 => og (¬ (v20 < 0 ∨ L ≤ v20.toNatClampNeg)) (ol (xs v20.toNatClampNeg) (fun v22 => obp (fX11_feed σ15 ((v19.toInt64 <<< (((32 : Int32)).toInt64 &&& 63)) ||| (v22.toInt64 &&& 4294967295))) (fun r23 σ24 => if r14 = r23 then (ol (x3 + 5) (fun v27 => sf_18 σ24 v27)) else (some (0, σ24))))))))))))))))) else if v4 = 1 then (ol (x3 + 1) (fun v29 => og (¬ (v29 < 0 ∨ L ≤ v29.toNatClampNeg)) (ol (xs v29.toNatClampNeg) (fun v31 => obp (fX10_end σ v31) (fun r32 σ33 => ol (x3 + 1) (fun v35 => og (¬ (v35 < 0 ∨ L ≤ v35.toNatClampNeg)) (ol (xs v35.toNatClampNeg) (fun v37 => obp (fX11_end σ33 v37) (fun r38 σ39 => if r32 = r38 then (ol (x3 + 5) (fun v42 => sf_18 σ39 v42)) else (some (0, σ39))))))))))) else if v4 = 2 then (obp (fX10_text σ) (fun r44 σ45 => obp (fX11_text σ45) (fun r47 σ48 => if r44 = r47 then (ol (x3 + 5) (fun v51 => sf_18 σ48 v51)) else (some (0, σ48))))) else if v4 = 3 then (obp (fX10_fault σ) (fun r53 σ54 => obp (fX11_fault σ54) (fun r56 σ57 => if r53 = r56 then (ol (x3 + 5) (fun v60 => sf_18 σ57 v60)) else (some (0, σ57))))) else if v4 = 4 then (ol (x3 + 1) (fun v62 => og (¬ (v62 < 0 ∨ L ≤ v62.toNatClampNeg)) (ol (xs v62.toNatClampNeg) (fun v64 => obp (fX10_rule σ v64) (fun r65 σ66 => ol (x3 + 1) (fun v68 => og (¬ (v68 < 0 ∨ L ≤ v68.toNatClampNeg)) (ol (xs v68.toNatClampNeg) (fun v70 => obp (fX11_rule σ66 v70) (fun r71 σ72 => if r65 = r71 then (ol (x3 + 5) (fun v75 => sf_18 σ72 v75)) else (some (0, σ72))))))))))) else if v4 = 5 then (ol (x3 + 1) (fun v77 => og (¬ (v77 < 0 ∨ L ≤ v77.toNatClampNeg)) (ol (xs v77.toNatClampNeg) (fun v79 => ol (x3 + 2) (fun v80 => og (¬ (v80 < 0 ∨ L ≤ v80.toNatClampNeg)) (ol (xs v80.toNatClampNeg) (fun v82 => obp (fX10_bell σ v79 v82) (fun r83 σ84 => ol (x3 + 1) (fun v86 => og (¬ (v86 < 0 ∨ L ≤ v86.toNatClampNeg)) (ol (xs v86.toNatClampNeg) (fun v88 => ol (x3 + 2) (fun v89 => og (¬ (v89 < 0 ∨ L ≤ v89.toNatClampNeg)) (ol (xs v89.toNatClampNeg) (fun v91 => obp (fX11_bell σ84 v88 v91) (fun r92 σ93 => if r83 = r92 then (ol (x3 + 5) (fun v96 => sf_18 σ93 v96)) else (some (0, σ93))))))))))))))))) else if v4 = 6 then (ol (x3 + 1) (fun v98 => og (¬ (v98 < 0 ∨ L ≤ v98.toNatClampNeg)) (ol (xs v98.toNatClampNeg) (fun v100 => ol (x3 + 2) (fun v101 => og (¬ (v101 < 0 ∨ L ≤ v101.toNatClampNeg)) (ol (xs v101.toNatClampNeg) (fun v103 => obp (fX10_tune σ v100 v103) (fun r104 σ105 => ol (x3 + 1) (fun v107 => og (¬ (v107 < 0 ∨ L ≤ v107.toNatClampNeg)) (ol (xs v107.toNatClampNeg) (fun v109 => ol (x3 + 2) (fun v110 => og (¬ (v110 < 0 ∨ L ≤ v110.toNatClampNeg)) (ol (xs v110.toNatClampNeg) (fun v112 => obp (fX11_tune σ105 v109 v112) (fun r113 σ114 => if r104 = r113 then (ol (x3 + 5) (fun v117 => sf_18 σ114 v117)) else (some (0, σ114))))))))))))))))) else if v4 = 7 then (ol (x3 + 1) (fun v119 => og (¬ (v119 < 0 ∨ L ≤ v119.toNatClampNeg)) (ol (xs v119.toNatClampNeg) (fun v121 => obp (fX10_feuds σ v121) (fun r122 σ123 => ol (x3 + 1) (fun v125 => og (¬ (v125 < 0 ∨ L ≤ v125.toNatClampNeg)) (ol (xs v125.toNatClampNeg) (fun v127 => obp (fX11_feuds σ123 v127) (fun r128 σ129 => if r122 = r128 then (ol (x3 + 5) (fun v132 => sf_18 σ129 v132)) else (some (0, σ129))))))))))) else if v4 = 8 then (ol (x3 + 1) (fun v134 => og (¬ (v134 < 0 ∨ L ≤ v134.toNatClampNeg)) (ol (xs v134.toNatClampNeg) (fun v136 => ol (x3 + 2) (fun v137 => og (¬ (v137 < 0 ∨ L ≤ v137.toNatClampNeg)) (ol (xs v137.toNatClampNeg) (fun v139 => obp (fX10_fee σ v136 v139) (fun r140 σ141 => ol (x3 + 1) (fun v143 => og (¬ (v143 < 0 ∨ L ≤ v143.toNatClampNeg)) (ol (xs v143.toNatClampNeg) (fun v145 => ol (x3 + 2) (fun v146 => og (¬ (v146 < 0 ∨ L ≤ v146.toNatClampNeg)) (ol (xs v146.toNatClampNeg) (fun v148 => obp (fX11_fee σ141 v145 v148) (fun r149 σ150 => if r140 = r149 then (ol (x3 + 5) (fun v153 => sf_18 σ150 v153)) else (some (0, σ150))))))))))))))))) else if v4 = 9 then (ol (x3 + 1) (fun v155 => og (¬ (v155 < 0 ∨ L ≤ v155.toNatClampNeg)) (ol (xs v155.toNatClampNeg) (fun v157 => ol (x3 + 2) (fun v158 => og (¬ (v158 < 0 ∨ L ≤ v158.toNatClampNeg)) (ol (xs v158.toNatClampNeg) (fun v160 => if v160 = 0 then (obp (fX10_shut σ v157 ((0 : Int32))) (fun r162 σ163 => ol (x3 + 1) (fun v165 => og (¬ (v165 < 0 ∨ L ≤ v165.toNatClampNeg)) (ol (xs v165.toNatClampNeg) (fun v167 => ol (x3 + 2) (fun v168 => og (¬ (v168 < 0 ∨ L ≤ v168.toNatClampNeg)) (ol (xs v168.toNatClampNeg) (fun v170 => if v170 = 0 then (obp (fX11_shut σ163 v167 ((0 : Int32))) (fun r172 σ173 => if r162 = r172 then (ol (x3 + 5) (fun v176 => sf_18 σ173 v176)) else (some (0, σ173)))) else (obp (fX11_shut σ163 v167 ((1 : Int32))) (fun r177 σ178 => if r162 = r177 then (ol (x3 + 5) (fun v181 => sf_18 σ178 v181)) else (some (0, σ178)))))))))))) else (obp (fX10_shut σ v157 ((1 : Int32))) (fun r182 σ183 => ol (x3 + 1) (fun v185 => og (¬ (v185 < 0 ∨ L ≤ v185.toNatClampNeg)) (ol (xs v185.toNatClampNeg) (fun v187 => ol (x3 + 2) (fun v188 => og (¬ (v188 < 0 ∨ L ≤ v188.toNatClampNeg)) (ol (xs v188.toNatClampNeg) (fun v190 => if v190 = 0 then (obp (fX11_shut σ183 v187 ((0 : Int32))) (fun r192 σ193 => if r182 = r192 then (ol (x3 + 5) (fun v196 => sf_18 σ193 v196)) else (some (0, σ193)))) else (obp (fX11_shut σ183 v187 ((1 : Int32))) (fun r197 σ198 => if r182 = r197 then (ol (x3 + 5) (fun v201 => sf_18 σ198 v201)) else (some (0, σ198))))))))))))))))))) else if v4 = 10 then (ol (x3 + 1) (fun v203 => og (¬ (v203 < 0 ∨ L ≤ v203.toNatClampNeg)) (ol (xs v203.toNatClampNeg) (fun v205 => ol (x3 + 2) (fun v206 => og (¬ (v206 < 0 ∨ L ≤ v206.toNatClampNeg)) (ol (xs v206.toNatClampNeg) (fun v208 => obp (fX10_sell σ v205 v208) (fun r209 σ210 => ol (x3 + 1) (fun v212 => og (¬ (v212 < 0 ∨ L ≤ v212.toNatClampNeg)) (ol (xs v212.toNatClampNeg) (fun v214 => ol (x3 + 2) (fun v215 => og (¬ (v215 < 0 ∨ L ≤ v215.toNatClampNeg)) (ol (xs v215.toNatClampNeg) (fun v217 => obp (fX11_sell σ210 v214 v217) (fun r218 σ219 => if r209 = r218 then (ol (x3 + 5) (fun v222 => sf_18 σ219 v222)) else (some (0, σ219))))))))))))))))) else if v4 = 11 then (ol (x3 + 1) (fun v224 => og (¬ (v224 < 0 ∨ L ≤ v224.toNatClampNeg)) (ol (xs v224.toNatClampNeg) (fun v226 => ol (x3 + 2) (fun v227 => og (¬ (v227 < 0 ∨ L ≤ v227.toNatClampNeg)) (ol (xs v227.toNatClampNeg) (fun v229 => obp (fX10_half σ v226 v229) (fun r230 σ231 => ol (x3 + 1) (fun v233 => og (¬ (v233 < 0 ∨ L ≤ v233.toNatClampNeg)) (ol (xs v233.toNatClampNeg) (fun v235 => ol (x3 + 2) (fun v236 => og (¬ (v236 < 0 ∨ L ≤ v236.toNatClampNeg)) (ol (xs v236.toNatClampNeg) (fun v238 => obp (fX11_half σ231 v235 v238) (fun r239 σ240 => if r230 = r239 then (ol (x3 + 5) (fun v243 => sf_18 σ240 v243)) else (some (0, σ240))))))))))))))))) else if v4 = 12 then (ol (x3 + 1) (fun v245 => og (¬ (v245 < 0 ∨ L ≤ v245.toNatClampNeg)) (ol (xs v245.toNatClampNeg) (fun v247 => ol (x3 + 2) (fun v248 => og (¬ (v248 < 0 ∨ L ≤ v248.toNatClampNeg)) (ol (xs v248.toNatClampNeg) (fun v250 => ol (x3 + 3) (fun v251 => og (¬ (v251 < 0 ∨ L ≤ v251.toNatClampNeg)) (ol (xs v251.toNatClampNeg) (fun v253 => if v253 = 0 then (obp (fX10_feud σ v247 v250 ((0 : Int32))) (fun r255 σ256 => ol (x3 + 1) (fun v258 => og (¬ (v258 < 0 ∨ L ≤ v258.toNatClampNeg)) (ol (xs v258.toNatClampNeg) (fun v260 => ol (x3 + 2) (fun v261 => og (¬ (v261 < 0 ∨ L ≤ v261.toNatClampNeg)) (ol (xs v261.toNatClampNeg) (fun v263 => ol (x3 + 3) (fun v264 => og (¬ (v264 < 0 ∨ L ≤ v264.toNatClampNeg)) (ol (xs v264.toNatClampNeg) (fun v266 => if v266 = 0 then (obp (fX11_feud σ256 v260 v263 ((0 : Int32))) (fun r268 σ269 => if r255 = r268 then (ol (x3 + 5) (fun v272 => sf_18 σ269 v272)) else (some (0, σ269)))) else (obp (fX11_feud σ256 v260 v263 ((1 : Int32))) (fun r273 σ274 => if r255 = r273 then (ol (x3 + 5) (fun v277 => sf_18 σ274 v277)) else (some (0, σ274))))))))))))))) else (obp (fX10_feud σ v247 v250 ((1 : Int32))) (fun r278 σ279 => ol (x3 + 1) (fun v281 => og (¬ (v281 < 0 ∨ L ≤ v281.toNatClampNeg)) (ol (xs v281.toNatClampNeg) (fun v283 => ol (x3 + 2) (fun v284 => og (¬ (v284 < 0 ∨ L ≤ v284.toNatClampNeg)) (ol (xs v284.toNatClampNeg) (fun v286 => ol (x3 + 3) (fun v287 => og (¬ (v287 < 0 ∨ L ≤ v287.toNatClampNeg)) (ol (xs v287.toNatClampNeg) (fun v289 => if v289 = 0 then (obp (fX11_feud σ279 v283 v286 ((0 : Int32))) (fun r291 σ292 => if r278 = r291 then (ol (x3 + 5) (fun v295 => sf_18 σ292 v295)) else (some (0, σ292)))) else (obp (fX11_feud σ279 v283 v286 ((1 : Int32))) (fun r296 σ297 => if r278 = r296 then (ol (x3 + 5) (fun v300 => sf_18 σ297 v300)) else (some (0, σ297))))))))))))))))))))))))) else if v4 = 13 then (ol (x3 + 1) (fun v302 => og (¬ (v302 < 0 ∨ L ≤ v302.toNatClampNeg)) (ol (xs v302.toNatClampNeg) (fun v304 => obp (fX10_feuding σ v304) (fun r305 σ306 => ol (x3 + 1) (fun v308 => og (¬ (v308 < 0 ∨ L ≤ v308.toNatClampNeg)) (ol (xs v308.toNatClampNeg) (fun v310 => obp (fX11_feuding σ306 v310) (fun r311 σ312 => if r305 = r311 then (ol (x3 + 5) (fun v315 => sf_18 σ312 v315)) else (some (0, σ312))))))))))) else if v4 = 14 then (ol (x3 + 1) (fun v317 => og (¬ (v317 < 0 ∨ L ≤ v317.toNatClampNeg)) (ol (xs v317.toNatClampNeg) (fun v319 => ol (x3 + 2) (fun v320 => og (¬ (v320 < 0 ∨ L ≤ v320.toNatClampNeg)) (ol (xs v320.toNatClampNeg) (fun v322 => obp (fX10_ring σ v319 v322) (fun r323 σ324 => ol (x3 + 1) (fun v326 => og (¬ (v326 < 0 ∨ L ≤ v326.toNatClampNeg)) (ol (xs v326.toNatClampNeg) (fun v328 => ol (x3 + 2) (fun v329 => og (¬ (v329 < 0 ∨ L ≤ v329.toNatClampNeg)) (ol (xs v329.toNatClampNeg) (fun v331 => obp (fX11_ring σ324 v328 v331) (fun r332 σ333 => if r323 = r332 then (ol (x3 + 5) (fun v336 => sf_18 σ333 v336)) else (some (0, σ333))))))))))))))))) else if v4 = 15 then (obp (fX10_taken σ) (fun r338 σ339 => obp (fX11_taken σ339) (fun r341 σ342 => if r338 = r341 then (ol (x3 + 5) (fun v345 => sf_18 σ342 v345)) else (some (0, σ342))))) else if v4 = 16 then (ol (x3 + 1) (fun v347 => og (¬ (v347 < 0 ∨ L ≤ v347.toNatClampNeg)) (ol (xs v347.toNatClampNeg) (fun v349 => ol (x3 + 2) (fun v350 => og (¬ (v350 < 0 ∨ L ≤ v350.toNatClampNeg)) (ol (xs v350.toNatClampNeg) (fun v352 => obp (fX10_gets σ v349 v352) (fun r353 σ354 => ol (x3 + 1) (fun v356 => og (¬ (v356 < 0 ∨ L ≤ v356.toNatClampNeg)) (ol (xs v356.toNatClampNeg) (fun v358 => ol (x3 + 2) (fun v359 => og (¬ (v359 < 0 ∨ L ≤ v359.toNatClampNeg)) (ol (xs v359.toNatClampNeg) (fun v361 => obp (fX11_gets σ354 v358 v361) (fun r362 σ363 => if r353 = r362 then (ol (x3 + 5) (fun v366 => sf_18 σ363 v366)) else (some (0, σ363))))))))))))))))) else if v4 = 17 then (ol (x3 + 1) (fun v368 => og (¬ (v368 < 0 ∨ L ≤ v368.toNatClampNeg)) (ol (xs v368.toNatClampNeg) (fun v370 => obp (fX10_wage σ v370) (fun r371 σ372 => ol (x3 + 1) (fun v374 => og (¬ (v374 < 0 ∨ L ≤ v374.toNatClampNeg)) (ol (xs v374.toNatClampNeg) (fun v376 => obp (fX11_wage σ372 v376) (fun r377 σ378 => if r371 = r377 then (ol (x3 + 5) (fun v381 => sf_18 σ378 v381)) else (some (0, σ378))))))))))) else if v4 = 18 then (ol (x3 + 1) (fun v383 => og (¬ (v383 < 0 ∨ L ≤ v383.toNatClampNeg)) (ol (xs v383.toNatClampNeg) (fun v385 => ol (x3 + 2) (fun v386 => og (¬ (v386 < 0 ∨ L ≤ v386.toNatClampNeg)) (ol (xs v386.toNatClampNeg) (fun v388 => obp (fX10_ask σ v385 v388) (fun r389 σ390 => ol (x3 + 1) (fun v392 => og (¬ (v392 < 0 ∨ L ≤ v392.toNatClampNeg)) (ol (xs v392.toNatClampNeg) (fun v394 => ol (x3 + 2) (fun v395 => og (¬ (v395 < 0 ∨ L ≤ v395.toNatClampNeg)) (ol (xs v395.toNatClampNeg) (fun v397 => obp (fX11_ask σ390 v394 v397) (fun r398 σ399 => if r389 = r398 then (ol (x3 + 5) (fun v402 => sf_18 σ399 v402)) else (some (0, σ399))))))))))))))))) else if v4 = 19 then (ol (x3 + 1) (fun v404 => og (¬ (v404 < 0 ∨ L ≤ v404.toNatClampNeg)) (ol (xs v404.toNatClampNeg) (fun v406 => ol (x3 + 2) (fun v407 => og (¬ (v407 < 0 ∨ L ≤ v407.toNatClampNeg)) (ol (xs v407.toNatClampNeg) (fun v409 => obp (fX10_best σ v406 v409) (fun r410 σ411 => ol (x3 + 1) (fun v413 => og (¬ (v413 < 0 ∨ L ≤ v413.toNatClampNeg)) (ol (xs v413.toNatClampNeg) (fun v415 => ol (x3 + 2) (fun v416 => og (¬ (v416 < 0 ∨ L ≤ v416.toNatClampNeg)) (ol (xs v416.toNatClampNeg) (fun v418 => obp (fX11_best σ411 v415 v418) (fun r419 σ420 => if r410 = r419 then (ol (x3 + 5) (fun v423 => sf_18 σ420 v423)) else (some (0, σ420))))))))))))))))) else if v4 = 20 then (ol (x3 + 1) (fun v425 => og (¬ (v425 < 0 ∨ L ≤ v425.toNatClampNeg)) (ol (xs v425.toNatClampNeg) (fun v427 => obp (fX10_settle σ v427) (fun r428 σ429 => ol (x3 + 1) (fun v431 => og (¬ (v431 < 0 ∨ L ≤ v431.toNatClampNeg)) (ol (xs v431.toNatClampNeg) (fun v433 => obp (fX11_settle σ429 v433) (fun r434 σ435 => if r428 = r434 then (ol (x3 + 5) (fun v438 => sf_18 σ435 v438)) else (some (0, σ435))))))))))) else if v4 = 21 then (obp (fX10_settled σ) (fun r440 σ441 => obp (fX11_settled σ441) (fun r443 σ444 => if r440 = r443 then (ol (x3 + 5) (fun v447 => sf_18 σ444 v447)) else (some (0, σ444))))) else if v4 = 22 then (ol (x3 + 1) (fun v449 => og (¬ (v449 < 0 ∨ L ≤ v449.toNatClampNeg)) (ol (xs v449.toNatClampNeg) (fun v451 => ol (x3 + 2) (fun v452 => og (¬ (v452 < 0 ∨ L ≤ v452.toNatClampNeg)) (ol (xs v452.toNatClampNeg) (fun v454 => obp (fX10_feast σ v451 v454) (fun r455 σ456 => ol (x3 + 1) (fun v458 => og (¬ (v458 < 0 ∨ L ≤ v458.toNatClampNeg)) (ol (xs v458.toNatClampNeg) (fun v460 => ol (x3 + 2) (fun v461 => og (¬ (v461 < 0 ∨ L ≤ v461.toNatClampNeg)) (ol (xs v461.toNatClampNeg) (fun v463 => obp (fX11_feast σ456 v460 v463) (fun r464 σ465 => if r455 = r464 then (ol (x3 + 5) (fun v468 => sf_18 σ465 v468)) else (some (0, σ465))))))))))))))))) else if v4 = 23 then (ol (x3 + 1) (fun v470 => og (¬ (v470 < 0 ∨ L ≤ v470.toNatClampNeg)) (ol (xs v470.toNatClampNeg) (fun v472 => ol (x3 + 2) (fun v473 => og (¬ (v473 < 0 ∨ L ≤ v473.toNatClampNeg)) (ol (xs v473.toNatClampNeg) (fun v475 => ol (x3 + 3) (fun v476 => og (¬ (v476 < 0 ∨ L ≤ v476.toNatClampNeg)) (ol (xs v476.toNatClampNeg) (fun v478 => obp (fX10_fair σ v472 v475 v478) (fun r479 σ480 => ol (x3 + 1) (fun v482 => og (¬ (v482 < 0 ∨ L ≤ v482.toNatClampNeg)) (ol (xs v482.toNatClampNeg) (fun v484 => ol (x3 + 2) (fun v485 => og (¬ (v485 < 0 ∨ L ≤ v485.toNatClampNeg)) (ol (xs v485.toNatClampNeg) (fun v487 => ol (x3 + 3) (fun v488 => og (¬ (v488 < 0 ∨ L ≤ v488.toNatClampNeg)) (ol (xs v488.toNatClampNeg) (fun v490 => obp (fX11_fair σ480 v484 v487 v490) (fun r491 σ492 => if r479 = r491 then (ol (x3 + 5) (fun v495 => sf_18 σ492 v495)) else (some (0, σ492))))))))))))))))))))))) else if v4 = 24 then (ol (x3 + 1) (fun v497 => og (¬ (v497 < 0 ∨ L ≤ v497.toNatClampNeg)) (ol (xs v497.toNatClampNeg) (fun v499 => ol (x3 + 2) (fun v500 => og (¬ (v500 < 0 ∨ L ≤ v500.toNatClampNeg)) (ol (xs v500.toNatClampNeg) (fun v502 => ol (x3 + 3) (fun v503 => og (¬ (v503 < 0 ∨ L ≤ v503.toNatClampNeg)) (ol (xs v503.toNatClampNeg) (fun v505 => obp (fX10_nearest σ v499 v502 v505) (fun r506 σ507 => ol (x3 + 1) (fun v509 => og (¬ (v509 < 0 ∨ L ≤ v509.toNatClampNeg)) (ol (xs v509.toNatClampNeg) (fun v511 => ol (x3 + 2) (fun v512 => og (¬ (v512 < 0 ∨ L ≤ v512.toNatClampNeg)) (ol (xs v512.toNatClampNeg) (fun v514 => ol (x3 + 3) (fun v515 => og (¬ (v515 < 0 ∨ L ≤ v515.toNatClampNeg)) (ol (xs v515.toNatClampNeg) (fun v517 => obp (fX11_nearest σ507 v511 v514 v517) (fun r518 σ519 => if r506 = r518 then (ol (x3 + 5) (fun v522 => sf_18 σ519 v522)) else (some (0, σ519))))))))))))))))))))))) else if v4 = 25 then (ol (x3 + 1) (fun v524 => og (¬ (v524 < 0 ∨ L ≤ v524.toNatClampNeg)) (ol (xs v524.toNatClampNeg) (fun v526 => obp (fX10_dear σ v526) (fun r527 σ528 => ol (x3 + 1) (fun v530 => og (¬ (v530 < 0 ∨ L ≤ v530.toNatClampNeg)) (ol (xs v530.toNatClampNeg) (fun v532 => obp (fX11_dear σ528 v532) (fun r533 σ534 => if r527 = r533 then (ol (x3 + 5) (fun v537 => sf_18 σ534 v537)) else (some (0, σ534))))))))))) else if v4 = 26 then (ol (x3 + 1) (fun v539 => og (¬ (v539 < 0 ∨ L ≤ v539.toNatClampNeg)) (ol (xs v539.toNatClampNeg) (fun v541 => ol (x3 + 2) (fun v542 => og (¬ (v542 < 0 ∨ L ≤ v542.toNatClampNeg)) (ol (xs v542.toNatClampNeg) (fun v544 => obp (fX10_storm σ v541 v544) (fun r545 σ546 => ol (x3 + 1) (fun v548 => og (¬ (v548 < 0 ∨ L ≤ v548.toNatClampNeg)) (ol (xs v548.toNatClampNeg) (fun v550 => ol (x3 + 2) (fun v551 => og (¬ (v551 < 0 ∨ L ≤ v551.toNatClampNeg)) (ol (xs v551.toNatClampNeg) (fun v553 => obp (fX11_storm σ546 v550 v553) (fun r554 σ555 => if r545 = r554 then (ol (x3 + 5) (fun v558 => sf_18 σ555 v558)) else (some (0, σ555))))))))))))))))) else if v4 = 27 then (ol (x3 + 1) (fun v560 => og (¬ (v560 < 0 ∨ L ≤ v560.toNatClampNeg)) (ol (xs v560.toNatClampNeg) (fun v562 => ol (x3 + 2) (fun v563 => og (¬ (v563 < 0 ∨ L ≤ v563.toNatClampNeg)) (ol (xs v563.toNatClampNeg) (fun v565 => obp (fX10_wine σ v562 v565) (fun r566 σ567 => ol (x3 + 1) (fun v569 => og (¬ (v569 < 0 ∨ L ≤ v569.toNatClampNeg)) (ol (xs v569.toNatClampNeg) (fun v571 => ol (x3 + 2) (fun v572 => og (¬ (v572 < 0 ∨ L ≤ v572.toNatClampNeg)) (ol (xs v572.toNatClampNeg) (fun v574 => obp (fX11_wine σ567 v571 v574) (fun r575 σ576 => if r566 = r575 then (ol (x3 + 5) (fun v579 => sf_18 σ576 v579)) else (some (0, σ576))))))))))))))))) else if v4 = 28 then (ol (x3 + 1) (fun v581 => og (¬ (v581 < 0 ∨ L ≤ v581.toNatClampNeg)) (ol (xs v581.toNatClampNeg) (fun v583 => obp (fX10_hear σ v583) (fun r584 σ585 => ol (x3 + 1) (fun v587 => og (¬ (v587 < 0 ∨ L ≤ v587.toNatClampNeg)) (ol (xs v587.toNatClampNeg) (fun v589 => obp (fX11_hear σ585 v589) (fun r590 σ591 => if r584 = r590 then (ol (x3 + 5) (fun v594 => sf_18 σ591 v594)) else (some (0, σ591))))))))))) else if v4 = 29 then (obp (fX10_hush σ) (fun r596 σ597 => obp (fX11_hush σ597) (fun r599 σ600 => if r596 = r599 then (ol (x3 + 5) (fun v603 => sf_18 σ600 v603)) else (some (0, σ600))))) else if v4 = 30 then (ol (x3 + 1) (fun v605 => og (¬ (v605 < 0 ∨ L ≤ v605.toNatClampNeg)) (ol (xs v605.toNatClampNeg) (fun v607 => obp (fX10_fits σ v607) (fun r608 σ609 => ol (x3 + 1) (fun v611 => og (¬ (v611 < 0 ∨ L ≤ v611.toNatClampNeg)) (ol (xs v611.toNatClampNeg) (fun v613 => obp (fX11_fits σ609 v613) (fun r614 σ615 => if r608 = r614 then (ol (x3 + 5) (fun v618 => sf_18 σ615 v618)) else (some (0, σ615))))))))))) else if v4 = 31 then (ol (x3 + 1) (fun v620 => og (¬ (v620 < 0 ∨ L ≤ v620.toNatClampNeg)) (ol (xs v620.toNatClampNeg) (fun v622 => obp (fX10_which σ v622) (fun r623 σ624 => ol (x3 + 1) (fun v626 => og (¬ (v626 < 0 ∨ L ≤ v626.toNatClampNeg)) (ol (xs v626.toNatClampNeg) (fun v628 => obp (fX11_which σ624 v628) (fun r629 σ630 => if r623 = r629 then (ol (x3 + 5) (fun v633 => sf_18 σ630 v633)) else (some (0, σ630))))))))))) else if v4 = 32 then (ol (x3 + 1) (fun v635 => og (¬ (v635 < 0 ∨ L ≤ v635.toNatClampNeg)) (ol (xs v635.toNatClampNeg) (fun v637 => obp (fX10_keep σ v637) (fun r638 σ639 => ol (x3 + 1) (fun v641 => og (¬ (v641 < 0 ∨ L ≤ v641.toNatClampNeg)) (ol (xs v641.toNatClampNeg) (fun v643 => obp (fX11_keep σ639 v643) (fun r644 σ645 => if r638 = r644 then (ol (x3 + 5) (fun v648 => sf_18 σ645 v648)) else (some (0, σ645))))))))))) else if v4 = 33 then (ol (x3 + 1) (fun v650 => og (¬ (v650 < 0 ∨ L ≤ v650.toNatClampNeg)) (ol (xs v650.toNatClampNeg) (fun v652 => obp (fX10_back σ v652) (fun r653 σ654 => ol (x3 + 1) (fun v656 => og (¬ (v656 < 0 ∨ L ≤ v656.toNatClampNeg)) (ol (xs v656.toNatClampNeg) (fun v658 => obp (fX11_back σ654 v658) (fun r659 σ660 => if r653 = r659 then (ol (x3 + 5) (fun v663 => sf_18 σ660 v663)) else (some (0, σ660))))))))))) else if v4 = 34 then (ol (x3 + 1) (fun v665 => og (¬ (v665 < 0 ∨ L ≤ v665.toNatClampNeg)) (ol (xs v665.toNatClampNeg) (fun v667 => ol (x3 + 2) (fun v668 => og (¬ (v668 < 0 ∨ L ≤ v668.toNatClampNeg)) (ol (xs v668.toNatClampNeg) (fun v670 => ol (x3 + 3) (fun v671 => og (¬ (v671 < 0 ∨ L ≤ v671.toNatClampNeg)) (ol (xs v671.toNatClampNeg) (fun v673 => obp (fX10_sheet σ v667 v670 v673) (fun r674 σ675 => ol (x3 + 1) (fun v677 => og (¬ (v677 < 0 ∨ L ≤ v677.toNatClampNeg)) (ol (xs v677.toNatClampNeg) (fun v679 => ol (x3 + 2) (fun v680 => og (¬ (v680 < 0 ∨ L ≤ v680.toNatClampNeg)) (ol (xs v680.toNatClampNeg) (fun v682 => ol (x3 + 3) (fun v683 => og (¬ (v683 < 0 ∨ L ≤ v683.toNatClampNeg)) (ol (xs v683.toNatClampNeg) (fun v685 => obp (fX11_sheet σ675 v679 v682 v685) (fun r686 σ687 => if r674 = r686 then (ol (x3 + 5) (fun v690 => sf_18 σ687 v690)) else (some (0, σ687))))))))))))))))))))))) else if v4 = 35 then (ol (x3 + 1) (fun v692 => og (¬ (v692 < 0 ∨ L ≤ v692.toNatClampNeg)) (ol (xs v692.toNatClampNeg) (fun v694 => ol (x3 + 2) (fun v695 => og (¬ (v695 < 0 ∨ L ≤ v695.toNatClampNeg)) (ol (xs v695.toNatClampNeg) (fun v697 => ol (x3 + 3) (fun v698 => og (¬ (v698 < 0 ∨ L ≤ v698.toNatClampNeg)) (ol (xs v698.toNatClampNeg) (fun v700 => obp (fX10_lay σ v694 v697 v700) (fun r701 σ702 => ol (x3 + 1) (fun v704 => og (¬ (v704 < 0 ∨ L ≤ v704.toNatClampNeg)) (ol (xs v704.toNatClampNeg) (fun v706 => ol (x3 + 2) (fun v707 => og (¬ (v707 < 0 ∨ L ≤ v707.toNatClampNeg)) (ol (xs v707.toNatClampNeg) (fun v709 => ol (x3 + 3) (fun v710 => og (¬ (v710 < 0 ∨ L ≤ v710.toNatClampNeg)) (ol (xs v710.toNatClampNeg) (fun v712 => obp (fX11_lay σ702 v706 v709 v712) (fun r713 σ714 => if r701 = r713 then (ol (x3 + 5) (fun v717 => sf_18 σ714 v717)) else (some (0, σ714))))))))))))))))))))))) else if v4 = 36 then (ol (x3 + 1) (fun v719 => og (¬ (v719 < 0 ∨ L ≤ v719.toNatClampNeg)) (ol (xs v719.toNatClampNeg) (fun v721 => ol (x3 + 2) (fun v722 => og (¬ (v722 < 0 ∨ L ≤ v722.toNatClampNeg)) (ol (xs v722.toNatClampNeg) (fun v724 => ol (x3 + 3) (fun v725 => og (¬ (v725 < 0 ∨ L ≤ v725.toNatClampNeg)) (ol (xs v725.toNatClampNeg) (fun v727 => ol (x3 + 4) (fun v728 => og (¬ (v728 < 0 ∨ L ≤ v728.toNatClampNeg)) (ol (xs v728.toNatClampNeg) (fun v730 => obp (fX10_read σ v721 v724 v727 v730) (fun r731 σ732 => ol (x3 + 1) (fun v734 => og (¬ (v734 < 0 ∨ L ≤ v734.toNatClampNeg)) (ol (xs v734.toNatClampNeg) (fun v736 => ol (x3 + 2) (fun v737 => og (¬ (v737 < 0 ∨ L ≤ v737.toNatClampNeg)) (ol (xs v737.toNatClampNeg) (fun v739 => ol (x3 + 3) (fun v740 => og (¬ (v740 < 0 ∨ L ≤ v740.toNatClampNeg)) (ol (xs v740.toNatClampNeg) (fun v742 => ol (x3 + 4) (fun v743 => og (¬ (v743 < 0 ∨ L ≤ v743.toNatClampNeg)) (ol (xs v743.toNatClampNeg) (fun v745 => obp (fX11_read σ732 v736 v739 v742 v745) (fun r746 σ747 => if r731 = r746 then (ol (x3 + 5) (fun v750 => sf_18 σ747 v750)) else (some (0, σ747))))))))))))))))))))))))))))) else if v4 = 37 then (obp (fX10_torn σ) (fun r752 σ753 => obp (fX11_torn σ753) (fun r755 σ756 => if r752 = r755 then (ol (x3 + 5) (fun v759 => sf_18 σ756 v759)) else (some (0, σ756))))) else if v4 = 38 then (ol (x3 + 1) (fun v761 => og (¬ (v761 < 0 ∨ L ≤ v761.toNatClampNeg)) (ol (xs v761.toNatClampNeg) (fun v763 => obp (fX10_count σ v763) (fun r764 σ765 => ol (x3 + 1) (fun v767 => og (¬ (v767 < 0 ∨ L ≤ v767.toNatClampNeg)) (ol (xs v767.toNatClampNeg) (fun v769 => obp (fX11_count σ765 v769) (fun r770 σ771 => if r764 = r770 then (ol (x3 + 5) (fun v774 => sf_18 σ771 v774)) else (some (0, σ771))))))))))) else none))))
set_option maxHeartbeats 4000000 in
set_option maxRecDepth 100000 in
theorem fL_b18_ok {p : Program} {l : Launch} {e : Env} {s : State} {m : MethodId} {below : List Frame} {meth : Method} {c : Code} {dC : Nat → ClassId} {dI : Nat → Nat → Nat} {ad : Nat → Nat} {cy : Nat → ClassId} {z b L : Nat} {xs : Nat → Int32} (C : Cx p s m #[Value.ref b] meth c RL cL_law 4 (some .boolean) dC dI ad cy z) (hX : va_X b L xs s s.heap) (hbl : b < s.heap.size) (hbA : ¬ AW ad z b) (hlo : ∀ q, AW ad z q → s.heap.size ≤ q) {ρ : S0} (sf_18 : S0 → Int32 → Option (Int32 × S0)) (hs_18 : ∀ (σ : S0) (x3 : Int32), sf_18 σ x3 = some (1, ρ) → Gw p l e room_1 s m #[Value.ref b] below meth c (lw_Z below #[Value.ref b] s) dC dI ad cy 4 z 111 2532 18 [(0, .ref b), (1, .ref (ad 0)), (2, .ref (ad 98)), (3, .int x3)] [] σ) (σ : S0) (x3 : Int32) (hf : fL_b18 xs L sf_18 σ x3 = some (1, ρ)) : Gw p l e room_1 s m #[Value.ref b] below meth c (lw_Z below #[Value.ref b] s) dC dI ad cy 4 z 111 2532 18 [(0, .ref b), (1, .ref (ad 0)), (2, .ref (ad 98)), (3, .int x3)] [] σ := by
  unfold fL_b18 at hf
  refine g_iload_n C dL_law_18 rfl 3 rfl ?_
  refine g_aload_n C dL_law_19 rfl 0 rfl ?_
  refine g_slen0 C hX hbl hbA dL_law_20 ?_
  refine g_iconst (v := 5) C dL_law_21 (by decide) ?_
  refine g_isub C dL_law_22 ?_
  rcases oi_e hf with ⟨c1, hf⟩ | ⟨c1, hf⟩
  · refine g_icmp_gt_t (tgt := 1369) C dL_law_23 (by decide) c1 ?_
    refine g_iconst (v := 1) C dL_law_1369 (by decide) ?_
    exact g_lret C hlo ⟨Nat.le_of_ble_eq_true rfl, Nat.le_of_ble_eq_true rfl⟩ dL_law_1370
  · refine g_icmp_gt_f (tgt := 1369) C dL_law_23 (by decide) c1 ?_
    refine g_aload_n C dL_law_26 rfl 0 rfl ?_
    refine g_iload_n C dL_law_27 rfl 3 rfl ?_
    obtain ⟨h2, hf⟩ := og_e hf
    refine g_sld C hX hbl hbA h2 dL_law_28 ?_
    obtain ⟨v3, ev3, hf⟩ := ol_e hf
    refine g_nm ev3 ?_
    refine g_bipush (v := 63) C dL_law_29 (by decide) ?_
    refine g_iand C dL_law_31 ?_
    obtain ⟨v4, ev4, hf⟩ := ol_e hf
    refine g_nm ev4 ?_
    rcases oi_e hf with ⟨c5, hf⟩ | ⟨c5, hf⟩
    · refine g_tout (tgt := 1363) C dL_law_32 c5 (by decide) ?_
      obtain ⟨v6, ev6, hf⟩ := ol_e hf
      refine g_iinc (j := 3) (w := 5) (lv2 := [(0, .ref b), (1, .ref (ad 0)), (2, .ref (ad 98)), (3, .int v6)]) C dL_law_1363 rfl (by decide) ev6 (by decide) [1, 2, 3, 0] rfl ?_
      refine g_goto (tgt := 18) C dL_law_1366 (by decide) ?_
      exact g_sub [0, 1, 2, 3] rfl (hs_18 σ v6 hf)
    · skip
      rcases oi_e hf with ⟨c7, hf⟩ | ⟨c7, hf⟩
      · refine g_tin (tgt := 204) C dL_law_32 (by rw [c7]; decide) (by rw [c7]; decide) (by rw [c7]; rfl) (by decide) ?_
        refine g_aload_n C dL_law_204 rfl 1 rfl ?_
        refine g_aload_n C dL_law_205 rfl 0 rfl ?_
        refine g_iload_n C dL_law_206 rfl 3 rfl ?_
        refine g_iconst (v := 1) C dL_law_207 (by decide) ?_
        refine g_iadd C dL_law_208 ?_
        obtain ⟨v8, ev8, hf⟩ := ol_e hf
        refine g_nm ev8 ?_
        obtain ⟨h9, hf⟩ := og_e hf
        refine g_sld C hX hbl hbA h9 dL_law_209 ?_
        obtain ⟨v10, ev10, hf⟩ := ol_e hf
        refine g_nm ev10 ?_
        refine g_i2l C dL_law_210 ?_
        refine g_bipush (v := 32) C dL_law_211 (by decide) ?_
        refine g_lshl C dL_law_213 ?_
        refine g_aload_n C dL_law_214 rfl 0 rfl ?_
        refine g_iload_n C dL_law_215 rfl 3 rfl ?_
        refine g_iconst (v := 2) C dL_law_216 (by decide) ?_
        refine g_iadd C dL_law_217 ?_
        obtain ⟨v11, ev11, hf⟩ := ol_e hf
        refine g_nm ev11 ?_
        obtain ⟨h12, hf⟩ := og_e hf
        refine g_sld C hX hbl hbA h12 dL_law_218 ?_
        obtain ⟨v13, ev13, hf⟩ := ol_e hf
        refine g_nm ev13 ?_
        refine g_i2l C dL_law_219 ?_
        refine g_ldc2 (v := 4294967295) C dL_law_220 hK_L_13 ?_
        refine g_land C dL_law_223 ?_
        refine g_lor C dL_law_224 ?_
        obtain ⟨r14, σ15, h16, hf⟩ := obp_e hf
        refine g_callVi (As := [.long ((v10.toInt64 <<< (((32 : Int32)).toInt64 &&& 63)) ||| (v13.toInt64 &&& 4294967295))]) (rest := []) C (a_0 ad cy _) rfl (c_X10_feed l dC dI ad cy ((v10.toInt64 <<< (((32 : Int32)).toInt64 &&& 63)) ||| (v13.toInt64 &&& 4294967295))) h16 hM_L_15 cal_X10_feed ⟨Nat.le_of_ble_eq_true rfl, Nat.le_of_ble_eq_true rfl⟩ ⟨rfl, rfl⟩ ⟨Nat.le_of_ble_eq_true rfl, Nat.le_of_ble_eq_true rfl⟩ rfl rfl (Nat.le_of_ble_eq_true rfl) dL_law_225 ?_
        refine g_aload_n C dL_law_228 rfl 2 rfl ?_
        refine g_aload_n C dL_law_229 rfl 0 rfl ?_
        refine g_iload_n C dL_law_230 rfl 3 rfl ?_
        refine g_iconst (v := 1) C dL_law_231 (by decide) ?_
        refine g_iadd C dL_law_232 ?_
        obtain ⟨v17, ev17, hf⟩ := ol_e hf
        refine g_nm ev17 ?_
        obtain ⟨h18, hf⟩ := og_e hf
        refine g_sld C hX hbl hbA h18 dL_law_233 ?_
        obtain ⟨v19, ev19, hf⟩ := ol_e hf
        refine g_nm ev19 ?_
        refine g_i2l C dL_law_234 ?_
        refine g_bipush (v := 32) C dL_law_235 (by decide) ?_
        refine g_lshl C dL_law_237 ?_
        refine g_aload_n C dL_law_238 rfl 0 rfl ?_
        refine g_iload_n C dL_law_239 rfl 3 rfl ?_
        refine g_iconst (v := 2) C dL_law_240 (by decide) ?_
        refine g_iadd C dL_law_241 ?_
        obtain ⟨v20, ev20, hf⟩ := ol_e hf
        refine g_nm ev20 ?_
        obtain ⟨h21, hf⟩ := og_e hf
        refine g_sld C hX hbl hbA h21 dL_law_242 ?_
        obtain ⟨v22, ev22, hf⟩ := ol_e hf
        refine g_nm ev22 ?_
        refine g_i2l C dL_law_243 ?_
        refine g_ldc2 (v := 4294967295) C dL_law_244 hK_L_13 ?_
        refine g_land C dL_law_247 ?_
        refine g_lor C dL_law_248 ?_
        obtain ⟨r23, σ24, h25, hf⟩ := obp_e hf
        refine g_callVi (As := [.long ((v19.toInt64 <<< (((32 : Int32)).toInt64 &&& 63)) ||| (v22.toInt64 &&& 4294967295))]) (rest := [.int r14]) C (a_98 ad cy _) rfl (c_X11_feed l dC dI ad cy ((v19.toInt64 <<< (((32 : Int32)).toInt64 &&& 63)) ||| (v22.toInt64 &&& 4294967295))) h25 hM_L_19 cal_X11_feed ⟨Nat.le_of_ble_eq_true rfl, Nat.le_of_ble_eq_true rfl⟩ ⟨rfl, rfl⟩ ⟨Nat.le_of_ble_eq_true rfl, Nat.le_of_ble_eq_true rfl⟩ rfl rfl (Nat.le_of_ble_eq_true rfl) dL_law_249 ?_
        rcases oi_e hf with ⟨c26, hf⟩ | ⟨c26, hf⟩
        · refine g_icmp_eq_t (tgt := 1363) C dL_law_252 (by decide) c26 ?_
          obtain ⟨v27, ev27, hf⟩ := ol_e hf
          refine g_iinc (j := 3) (w := 5) (lv2 := [(0, .ref b), (1, .ref (ad 0)), (2, .ref (ad 98)), (3, .int v27)]) C dL_law_1363 rfl (by decide) ev27 (by decide) [1, 2, 3, 0] rfl ?_
          refine g_goto (tgt := 18) C dL_law_1366 (by decide) ?_
          exact g_sub [0, 1, 2, 3] rfl (hs_18 σ24 v27 hf)
        · refine g_icmp_eq_f (tgt := 1363) C dL_law_252 (by decide) c26 ?_
          refine g_iconst (v := 0) C dL_law_255 (by decide) ?_
          exact absurd (os_e hf).1 (by decide)
      · skip
        rcases oi_e hf with ⟨c28, hf⟩ | ⟨c28, hf⟩
        · refine g_tin (tgt := 257) C dL_law_32 (by rw [c28]; decide) (by rw [c28]; decide) (by rw [c28]; rfl) (by decide) ?_
          refine g_aload_n C dL_law_257 rfl 1 rfl ?_
          refine g_aload_n C dL_law_258 rfl 0 rfl ?_
          refine g_iload_n C dL_law_259 rfl 3 rfl ?_
          refine g_iconst (v := 1) C dL_law_260 (by decide) ?_
          refine g_iadd C dL_law_261 ?_
          obtain ⟨v29, ev29, hf⟩ := ol_e hf
          refine g_nm ev29 ?_
          obtain ⟨h30, hf⟩ := og_e hf
          refine g_sld C hX hbl hbA h30 dL_law_262 ?_
          obtain ⟨v31, ev31, hf⟩ := ol_e hf
          refine g_nm ev31 ?_
          obtain ⟨r32, σ33, h34, hf⟩ := obp_e hf
          refine g_callVi (As := [.int v31]) (rest := []) C (a_0 ad cy _) rfl (c_X10_end l dC dI ad cy v31) h34 hM_L_20 cal_X10_end ⟨Nat.le_of_ble_eq_true rfl, Nat.le_of_ble_eq_true rfl⟩ ⟨rfl, rfl⟩ ⟨Nat.le_of_ble_eq_true rfl, Nat.le_of_ble_eq_true rfl⟩ rfl rfl (Nat.le_of_ble_eq_true rfl) dL_law_263 ?_
          refine g_aload_n C dL_law_266 rfl 2 rfl ?_
          refine g_aload_n C dL_law_267 rfl 0 rfl ?_
          refine g_iload_n C dL_law_268 rfl 3 rfl ?_
          refine g_iconst (v := 1) C dL_law_269 (by decide) ?_
          refine g_iadd C dL_law_270 ?_
          obtain ⟨v35, ev35, hf⟩ := ol_e hf
          refine g_nm ev35 ?_
          obtain ⟨h36, hf⟩ := og_e hf
          refine g_sld C hX hbl hbA h36 dL_law_271 ?_
          obtain ⟨v37, ev37, hf⟩ := ol_e hf
          refine g_nm ev37 ?_
          obtain ⟨r38, σ39, h40, hf⟩ := obp_e hf
          refine g_callVi (As := [.int v37]) (rest := [.int r32]) C (a_98 ad cy _) rfl (c_X11_end l dC dI ad cy v37) h40 hM_L_24 cal_X11_end ⟨Nat.le_of_ble_eq_true rfl, Nat.le_of_ble_eq_true rfl⟩ ⟨rfl, rfl⟩ ⟨Nat.le_of_ble_eq_true rfl, Nat.le_of_ble_eq_true rfl⟩ rfl rfl (Nat.le_of_ble_eq_true rfl) dL_law_272 ?_
          rcases oi_e hf with ⟨c41, hf⟩ | ⟨c41, hf⟩
          · refine g_icmp_eq_t (tgt := 1363) C dL_law_275 (by decide) c41 ?_
            obtain ⟨v42, ev42, hf⟩ := ol_e hf
            refine g_iinc (j := 3) (w := 5) (lv2 := [(0, .ref b), (1, .ref (ad 0)), (2, .ref (ad 98)), (3, .int v42)]) C dL_law_1363 rfl (by decide) ev42 (by decide) [1, 2, 3, 0] rfl ?_
            refine g_goto (tgt := 18) C dL_law_1366 (by decide) ?_
            exact g_sub [0, 1, 2, 3] rfl (hs_18 σ39 v42 hf)
          · refine g_icmp_eq_f (tgt := 1363) C dL_law_275 (by decide) c41 ?_
            refine g_iconst (v := 0) C dL_law_278 (by decide) ?_
            exact absurd (os_e hf).1 (by decide)
        · skip
          rcases oi_e hf with ⟨c43, hf⟩ | ⟨c43, hf⟩
          · refine g_tin (tgt := 280) C dL_law_32 (by rw [c43]; decide) (by rw [c43]; decide) (by rw [c43]; rfl) (by decide) ?_
            refine g_aload_n C dL_law_280 rfl 1 rfl ?_
            obtain ⟨r44, σ45, h46, hf⟩ := obp_e hf
            refine g_callVi (As := []) (rest := []) C (a_0 ad cy _) rfl (c_X10_text l dC dI ad cy ) h46 hM_L_25 cal_X10_text ⟨Nat.le_of_ble_eq_true rfl, Nat.le_of_ble_eq_true rfl⟩ ⟨rfl, rfl⟩ ⟨Nat.le_of_ble_eq_true rfl, Nat.le_of_ble_eq_true rfl⟩ rfl rfl (Nat.le_of_ble_eq_true rfl) dL_law_281 ?_
            refine g_aload_n C dL_law_284 rfl 2 rfl ?_
            obtain ⟨r47, σ48, h49, hf⟩ := obp_e hf
            refine g_callVi (As := []) (rest := [.int r44]) C (a_98 ad cy _) rfl (c_X11_text l dC dI ad cy ) h49 hM_L_29 cal_X11_text ⟨Nat.le_of_ble_eq_true rfl, Nat.le_of_ble_eq_true rfl⟩ ⟨rfl, rfl⟩ ⟨Nat.le_of_ble_eq_true rfl, Nat.le_of_ble_eq_true rfl⟩ rfl rfl (Nat.le_of_ble_eq_true rfl) dL_law_285 ?_
            rcases oi_e hf with ⟨c50, hf⟩ | ⟨c50, hf⟩
            · refine g_icmp_eq_t (tgt := 1363) C dL_law_288 (by decide) c50 ?_
              obtain ⟨v51, ev51, hf⟩ := ol_e hf
              refine g_iinc (j := 3) (w := 5) (lv2 := [(0, .ref b), (1, .ref (ad 0)), (2, .ref (ad 98)), (3, .int v51)]) C dL_law_1363 rfl (by decide) ev51 (by decide) [1, 2, 3, 0] rfl ?_
              refine g_goto (tgt := 18) C dL_law_1366 (by decide) ?_
              exact g_sub [0, 1, 2, 3] rfl (hs_18 σ48 v51 hf)
            · refine g_icmp_eq_f (tgt := 1363) C dL_law_288 (by decide) c50 ?_
              refine g_iconst (v := 0) C dL_law_291 (by decide) ?_
              exact absurd (os_e hf).1 (by decide)
          · skip
            rcases oi_e hf with ⟨c52, hf⟩ | ⟨c52, hf⟩
            · refine g_tin (tgt := 293) C dL_law_32 (by rw [c52]; decide) (by rw [c52]; decide) (by rw [c52]; rfl) (by decide) ?_
              refine g_aload_n C dL_law_293 rfl 1 rfl ?_
              obtain ⟨r53, σ54, h55, hf⟩ := obp_e hf
              refine g_callVi (As := []) (rest := []) C (a_0 ad cy _) rfl (c_X10_fault l dC dI ad cy ) h55 hM_L_30 cal_X10_fault ⟨Nat.le_of_ble_eq_true rfl, Nat.le_of_ble_eq_true rfl⟩ ⟨rfl, rfl⟩ ⟨Nat.le_of_ble_eq_true rfl, Nat.le_of_ble_eq_true rfl⟩ rfl rfl (Nat.le_of_ble_eq_true rfl) dL_law_294 ?_
              refine g_aload_n C dL_law_297 rfl 2 rfl ?_
              obtain ⟨r56, σ57, h58, hf⟩ := obp_e hf
              refine g_callVi (As := []) (rest := [.int r53]) C (a_98 ad cy _) rfl (c_X11_fault l dC dI ad cy ) h58 hM_L_33 cal_X11_fault ⟨Nat.le_of_ble_eq_true rfl, Nat.le_of_ble_eq_true rfl⟩ ⟨rfl, rfl⟩ ⟨Nat.le_of_ble_eq_true rfl, Nat.le_of_ble_eq_true rfl⟩ rfl rfl (Nat.le_of_ble_eq_true rfl) dL_law_298 ?_
              rcases oi_e hf with ⟨c59, hf⟩ | ⟨c59, hf⟩
              · refine g_icmp_eq_t (tgt := 1363) C dL_law_301 (by decide) c59 ?_
                obtain ⟨v60, ev60, hf⟩ := ol_e hf
                refine g_iinc (j := 3) (w := 5) (lv2 := [(0, .ref b), (1, .ref (ad 0)), (2, .ref (ad 98)), (3, .int v60)]) C dL_law_1363 rfl (by decide) ev60 (by decide) [1, 2, 3, 0] rfl ?_
                refine g_goto (tgt := 18) C dL_law_1366 (by decide) ?_
                exact g_sub [0, 1, 2, 3] rfl (hs_18 σ57 v60 hf)
              · refine g_icmp_eq_f (tgt := 1363) C dL_law_301 (by decide) c59 ?_
                refine g_iconst (v := 0) C dL_law_304 (by decide) ?_
                exact absurd (os_e hf).1 (by decide)
            · skip
              rcases oi_e hf with ⟨c61, hf⟩ | ⟨c61, hf⟩
              · refine g_tin (tgt := 306) C dL_law_32 (by rw [c61]; decide) (by rw [c61]; decide) (by rw [c61]; rfl) (by decide) ?_
                refine g_aload_n C dL_law_306 rfl 1 rfl ?_
                refine g_aload_n C dL_law_307 rfl 0 rfl ?_
                refine g_iload_n C dL_law_308 rfl 3 rfl ?_
                refine g_iconst (v := 1) C dL_law_309 (by decide) ?_
                refine g_iadd C dL_law_310 ?_
                obtain ⟨v62, ev62, hf⟩ := ol_e hf
                refine g_nm ev62 ?_
                obtain ⟨h63, hf⟩ := og_e hf
                refine g_sld C hX hbl hbA h63 dL_law_311 ?_
                obtain ⟨v64, ev64, hf⟩ := ol_e hf
                refine g_nm ev64 ?_
                obtain ⟨r65, σ66, h67, hf⟩ := obp_e hf
                refine g_callVi (As := [.int v64]) (rest := []) C (a_0 ad cy _) rfl (c_X10_rule l dC dI ad cy v64) h67 hM_L_34 cal_X10_rule ⟨Nat.le_of_ble_eq_true rfl, Nat.le_of_ble_eq_true rfl⟩ ⟨rfl, rfl⟩ ⟨Nat.le_of_ble_eq_true rfl, Nat.le_of_ble_eq_true rfl⟩ rfl rfl (Nat.le_of_ble_eq_true rfl) dL_law_312 ?_
                refine g_aload_n C dL_law_315 rfl 2 rfl ?_
                refine g_aload_n C dL_law_316 rfl 0 rfl ?_
                refine g_iload_n C dL_law_317 rfl 3 rfl ?_
                refine g_iconst (v := 1) C dL_law_318 (by decide) ?_
                refine g_iadd C dL_law_319 ?_
                obtain ⟨v68, ev68, hf⟩ := ol_e hf
                refine g_nm ev68 ?_
                obtain ⟨h69, hf⟩ := og_e hf
                refine g_sld C hX hbl hbA h69 dL_law_320 ?_
                obtain ⟨v70, ev70, hf⟩ := ol_e hf
                refine g_nm ev70 ?_
                obtain ⟨r71, σ72, h73, hf⟩ := obp_e hf
                refine g_callVi (As := [.int v70]) (rest := [.int r65]) C (a_98 ad cy _) rfl (c_X11_rule l dC dI ad cy v70) h73 hM_L_37 cal_X11_rule ⟨Nat.le_of_ble_eq_true rfl, Nat.le_of_ble_eq_true rfl⟩ ⟨rfl, rfl⟩ ⟨Nat.le_of_ble_eq_true rfl, Nat.le_of_ble_eq_true rfl⟩ rfl rfl (Nat.le_of_ble_eq_true rfl) dL_law_321 ?_
                rcases oi_e hf with ⟨c74, hf⟩ | ⟨c74, hf⟩
                · refine g_icmp_eq_t (tgt := 1363) C dL_law_324 (by decide) c74 ?_
                  obtain ⟨v75, ev75, hf⟩ := ol_e hf
                  refine g_iinc (j := 3) (w := 5) (lv2 := [(0, .ref b), (1, .ref (ad 0)), (2, .ref (ad 98)), (3, .int v75)]) C dL_law_1363 rfl (by decide) ev75 (by decide) [1, 2, 3, 0] rfl ?_
                  refine g_goto (tgt := 18) C dL_law_1366 (by decide) ?_
                  exact g_sub [0, 1, 2, 3] rfl (hs_18 σ72 v75 hf)
                · refine g_icmp_eq_f (tgt := 1363) C dL_law_324 (by decide) c74 ?_
                  refine g_iconst (v := 0) C dL_law_327 (by decide) ?_
                  exact absurd (os_e hf).1 (by decide)
              · skip
                rcases oi_e hf with ⟨c76, hf⟩ | ⟨c76, hf⟩
                · refine g_tin (tgt := 329) C dL_law_32 (by rw [c76]; decide) (by rw [c76]; decide) (by rw [c76]; rfl) (by decide) ?_
                  refine g_aload_n C dL_law_329 rfl 1 rfl ?_
                  refine g_aload_n C dL_law_330 rfl 0 rfl ?_
                  refine g_iload_n C dL_law_331 rfl 3 rfl ?_
                  refine g_iconst (v := 1) C dL_law_332 (by decide) ?_
                  refine g_iadd C dL_law_333 ?_
                  obtain ⟨v77, ev77, hf⟩ := ol_e hf
                  refine g_nm ev77 ?_
                  obtain ⟨h78, hf⟩ := og_e hf
                  refine g_sld C hX hbl hbA h78 dL_law_334 ?_
                  obtain ⟨v79, ev79, hf⟩ := ol_e hf
                  refine g_nm ev79 ?_
                  refine g_aload_n C dL_law_335 rfl 0 rfl ?_
                  refine g_iload_n C dL_law_336 rfl 3 rfl ?_
                  refine g_iconst (v := 2) C dL_law_337 (by decide) ?_
                  refine g_iadd C dL_law_338 ?_
                  obtain ⟨v80, ev80, hf⟩ := ol_e hf
                  refine g_nm ev80 ?_
                  obtain ⟨h81, hf⟩ := og_e hf
                  refine g_sld C hX hbl hbA h81 dL_law_339 ?_
                  obtain ⟨v82, ev82, hf⟩ := ol_e hf
                  refine g_nm ev82 ?_
                  obtain ⟨r83, σ84, h85, hf⟩ := obp_e hf
                  refine g_callVi (As := [.int v79, .int v82]) (rest := []) C (a_0 ad cy _) rfl (c_X10_bell l dC dI ad cy v79 v82) h85 hM_L_38 cal_X10_bell ⟨Nat.le_of_ble_eq_true rfl, Nat.le_of_ble_eq_true rfl⟩ ⟨rfl, rfl⟩ ⟨Nat.le_of_ble_eq_true rfl, Nat.le_of_ble_eq_true rfl⟩ rfl rfl (Nat.le_of_ble_eq_true rfl) dL_law_340 ?_
                  refine g_aload_n C dL_law_343 rfl 2 rfl ?_
                  refine g_aload_n C dL_law_344 rfl 0 rfl ?_
                  refine g_iload_n C dL_law_345 rfl 3 rfl ?_
                  refine g_iconst (v := 1) C dL_law_346 (by decide) ?_
                  refine g_iadd C dL_law_347 ?_
                  obtain ⟨v86, ev86, hf⟩ := ol_e hf
                  refine g_nm ev86 ?_
                  obtain ⟨h87, hf⟩ := og_e hf
                  refine g_sld C hX hbl hbA h87 dL_law_348 ?_
                  obtain ⟨v88, ev88, hf⟩ := ol_e hf
                  refine g_nm ev88 ?_
                  refine g_aload_n C dL_law_349 rfl 0 rfl ?_
                  refine g_iload_n C dL_law_350 rfl 3 rfl ?_
                  refine g_iconst (v := 2) C dL_law_351 (by decide) ?_
                  refine g_iadd C dL_law_352 ?_
                  obtain ⟨v89, ev89, hf⟩ := ol_e hf
                  refine g_nm ev89 ?_
                  obtain ⟨h90, hf⟩ := og_e hf
                  refine g_sld C hX hbl hbA h90 dL_law_353 ?_
                  obtain ⟨v91, ev91, hf⟩ := ol_e hf
                  refine g_nm ev91 ?_
                  obtain ⟨r92, σ93, h94, hf⟩ := obp_e hf
                  refine g_callVi (As := [.int v88, .int v91]) (rest := [.int r83]) C (a_98 ad cy _) rfl (c_X11_bell l dC dI ad cy v88 v91) h94 hM_L_42 cal_X11_bell ⟨Nat.le_of_ble_eq_true rfl, Nat.le_of_ble_eq_true rfl⟩ ⟨rfl, rfl⟩ ⟨Nat.le_of_ble_eq_true rfl, Nat.le_of_ble_eq_true rfl⟩ rfl rfl (Nat.le_of_ble_eq_true rfl) dL_law_354 ?_
                  rcases oi_e hf with ⟨c95, hf⟩ | ⟨c95, hf⟩
                  · refine g_icmp_eq_t (tgt := 1363) C dL_law_357 (by decide) c95 ?_
                    obtain ⟨v96, ev96, hf⟩ := ol_e hf
                    refine g_iinc (j := 3) (w := 5) (lv2 := [(0, .ref b), (1, .ref (ad 0)), (2, .ref (ad 98)), (3, .int v96)]) C dL_law_1363 rfl (by decide) ev96 (by decide) [1, 2, 3, 0] rfl ?_
                    refine g_goto (tgt := 18) C dL_law_1366 (by decide) ?_
                    exact g_sub [0, 1, 2, 3] rfl (hs_18 σ93 v96 hf)
                  · refine g_icmp_eq_f (tgt := 1363) C dL_law_357 (by decide) c95 ?_
                    refine g_iconst (v := 0) C dL_law_360 (by decide) ?_
                    exact absurd (os_e hf).1 (by decide)
                · skip
                  rcases oi_e hf with ⟨c97, hf⟩ | ⟨c97, hf⟩
                  · refine g_tin (tgt := 362) C dL_law_32 (by rw [c97]; decide) (by rw [c97]; decide) (by rw [c97]; rfl) (by decide) ?_
                    refine g_aload_n C dL_law_362 rfl 1 rfl ?_
                    refine g_aload_n C dL_law_363 rfl 0 rfl ?_
                    refine g_iload_n C dL_law_364 rfl 3 rfl ?_
                    refine g_iconst (v := 1) C dL_law_365 (by decide) ?_
                    refine g_iadd C dL_law_366 ?_
                    obtain ⟨v98, ev98, hf⟩ := ol_e hf
                    refine g_nm ev98 ?_
                    obtain ⟨h99, hf⟩ := og_e hf
                    refine g_sld C hX hbl hbA h99 dL_law_367 ?_
                    obtain ⟨v100, ev100, hf⟩ := ol_e hf
                    refine g_nm ev100 ?_
                    refine g_aload_n C dL_law_368 rfl 0 rfl ?_
                    refine g_iload_n C dL_law_369 rfl 3 rfl ?_
                    refine g_iconst (v := 2) C dL_law_370 (by decide) ?_
                    refine g_iadd C dL_law_371 ?_
                    obtain ⟨v101, ev101, hf⟩ := ol_e hf
                    refine g_nm ev101 ?_
                    obtain ⟨h102, hf⟩ := og_e hf
                    refine g_sld C hX hbl hbA h102 dL_law_372 ?_
                    obtain ⟨v103, ev103, hf⟩ := ol_e hf
                    refine g_nm ev103 ?_
                    obtain ⟨r104, σ105, h106, hf⟩ := obp_e hf
                    refine g_callVi (As := [.int v100, .int v103]) (rest := []) C (a_0 ad cy _) rfl (c_X10_tune l dC dI ad cy v100 v103) h106 hM_L_43 cal_X10_tune ⟨Nat.le_of_ble_eq_true rfl, Nat.le_of_ble_eq_true rfl⟩ ⟨rfl, rfl⟩ ⟨Nat.le_of_ble_eq_true rfl, Nat.le_of_ble_eq_true rfl⟩ rfl rfl (Nat.le_of_ble_eq_true rfl) dL_law_373 ?_
                    refine g_aload_n C dL_law_376 rfl 2 rfl ?_
                    refine g_aload_n C dL_law_377 rfl 0 rfl ?_
                    refine g_iload_n C dL_law_378 rfl 3 rfl ?_
                    refine g_iconst (v := 1) C dL_law_379 (by decide) ?_
                    refine g_iadd C dL_law_380 ?_
                    obtain ⟨v107, ev107, hf⟩ := ol_e hf
                    refine g_nm ev107 ?_
                    obtain ⟨h108, hf⟩ := og_e hf
                    refine g_sld C hX hbl hbA h108 dL_law_381 ?_
                    obtain ⟨v109, ev109, hf⟩ := ol_e hf
                    refine g_nm ev109 ?_
                    refine g_aload_n C dL_law_382 rfl 0 rfl ?_
                    refine g_iload_n C dL_law_383 rfl 3 rfl ?_
                    refine g_iconst (v := 2) C dL_law_384 (by decide) ?_
                    refine g_iadd C dL_law_385 ?_
                    obtain ⟨v110, ev110, hf⟩ := ol_e hf
                    refine g_nm ev110 ?_
                    obtain ⟨h111, hf⟩ := og_e hf
                    refine g_sld C hX hbl hbA h111 dL_law_386 ?_
                    obtain ⟨v112, ev112, hf⟩ := ol_e hf
                    refine g_nm ev112 ?_
                    obtain ⟨r113, σ114, h115, hf⟩ := obp_e hf
                    refine g_callVi (As := [.int v109, .int v112]) (rest := [.int r104]) C (a_98 ad cy _) rfl (c_X11_tune l dC dI ad cy v109 v112) h115 hM_L_46 cal_X11_tune ⟨Nat.le_of_ble_eq_true rfl, Nat.le_of_ble_eq_true rfl⟩ ⟨rfl, rfl⟩ ⟨Nat.le_of_ble_eq_true rfl, Nat.le_of_ble_eq_true rfl⟩ rfl rfl (Nat.le_of_ble_eq_true rfl) dL_law_387 ?_
                    rcases oi_e hf with ⟨c116, hf⟩ | ⟨c116, hf⟩
                    · refine g_icmp_eq_t (tgt := 1363) C dL_law_390 (by decide) c116 ?_
                      obtain ⟨v117, ev117, hf⟩ := ol_e hf
                      refine g_iinc (j := 3) (w := 5) (lv2 := [(0, .ref b), (1, .ref (ad 0)), (2, .ref (ad 98)), (3, .int v117)]) C dL_law_1363 rfl (by decide) ev117 (by decide) [1, 2, 3, 0] rfl ?_
                      refine g_goto (tgt := 18) C dL_law_1366 (by decide) ?_
                      exact g_sub [0, 1, 2, 3] rfl (hs_18 σ114 v117 hf)
                    · refine g_icmp_eq_f (tgt := 1363) C dL_law_390 (by decide) c116 ?_
                      refine g_iconst (v := 0) C dL_law_393 (by decide) ?_
                      exact absurd (os_e hf).1 (by decide)
                  · skip
                    rcases oi_e hf with ⟨c118, hf⟩ | ⟨c118, hf⟩
                    · refine g_tin (tgt := 395) C dL_law_32 (by rw [c118]; decide) (by rw [c118]; decide) (by rw [c118]; rfl) (by decide) ?_
                      refine g_aload_n C dL_law_395 rfl 1 rfl ?_
                      refine g_aload_n C dL_law_396 rfl 0 rfl ?_
                      refine g_iload_n C dL_law_397 rfl 3 rfl ?_
                      refine g_iconst (v := 1) C dL_law_398 (by decide) ?_
                      refine g_iadd C dL_law_399 ?_
                      obtain ⟨v119, ev119, hf⟩ := ol_e hf
                      refine g_nm ev119 ?_
                      obtain ⟨h120, hf⟩ := og_e hf
                      refine g_sld C hX hbl hbA h120 dL_law_400 ?_
                      obtain ⟨v121, ev121, hf⟩ := ol_e hf
                      refine g_nm ev121 ?_
                      obtain ⟨r122, σ123, h124, hf⟩ := obp_e hf
                      refine g_callVi (As := [.int v121]) (rest := []) C (a_0 ad cy _) rfl (c_X10_feuds l dC dI ad cy v121) h124 hM_L_47 cal_X10_feuds ⟨Nat.le_of_ble_eq_true rfl, Nat.le_of_ble_eq_true rfl⟩ ⟨rfl, rfl⟩ ⟨Nat.le_of_ble_eq_true rfl, Nat.le_of_ble_eq_true rfl⟩ rfl rfl (Nat.le_of_ble_eq_true rfl) dL_law_401 ?_
                      refine g_aload_n C dL_law_404 rfl 2 rfl ?_
                      refine g_aload_n C dL_law_405 rfl 0 rfl ?_
                      refine g_iload_n C dL_law_406 rfl 3 rfl ?_
                      refine g_iconst (v := 1) C dL_law_407 (by decide) ?_
                      refine g_iadd C dL_law_408 ?_
                      obtain ⟨v125, ev125, hf⟩ := ol_e hf
                      refine g_nm ev125 ?_
                      obtain ⟨h126, hf⟩ := og_e hf
                      refine g_sld C hX hbl hbA h126 dL_law_409 ?_
                      obtain ⟨v127, ev127, hf⟩ := ol_e hf
                      refine g_nm ev127 ?_
                      obtain ⟨r128, σ129, h130, hf⟩ := obp_e hf
                      refine g_callVi (As := [.int v127]) (rest := [.int r122]) C (a_98 ad cy _) rfl (c_X11_feuds l dC dI ad cy v127) h130 hM_L_50 cal_X11_feuds ⟨Nat.le_of_ble_eq_true rfl, Nat.le_of_ble_eq_true rfl⟩ ⟨rfl, rfl⟩ ⟨Nat.le_of_ble_eq_true rfl, Nat.le_of_ble_eq_true rfl⟩ rfl rfl (Nat.le_of_ble_eq_true rfl) dL_law_410 ?_
                      rcases oi_e hf with ⟨c131, hf⟩ | ⟨c131, hf⟩
                      · refine g_icmp_eq_t (tgt := 1363) C dL_law_413 (by decide) c131 ?_
                        obtain ⟨v132, ev132, hf⟩ := ol_e hf
                        refine g_iinc (j := 3) (w := 5) (lv2 := [(0, .ref b), (1, .ref (ad 0)), (2, .ref (ad 98)), (3, .int v132)]) C dL_law_1363 rfl (by decide) ev132 (by decide) [1, 2, 3, 0] rfl ?_
                        refine g_goto (tgt := 18) C dL_law_1366 (by decide) ?_
                        exact g_sub [0, 1, 2, 3] rfl (hs_18 σ129 v132 hf)
                      · refine g_icmp_eq_f (tgt := 1363) C dL_law_413 (by decide) c131 ?_
                        refine g_iconst (v := 0) C dL_law_416 (by decide) ?_
                        exact absurd (os_e hf).1 (by decide)
                    · skip
                      rcases oi_e hf with ⟨c133, hf⟩ | ⟨c133, hf⟩
                      · refine g_tin (tgt := 418) C dL_law_32 (by rw [c133]; decide) (by rw [c133]; decide) (by rw [c133]; rfl) (by decide) ?_
                        refine g_aload_n C dL_law_418 rfl 1 rfl ?_
                        refine g_aload_n C dL_law_419 rfl 0 rfl ?_
                        refine g_iload_n C dL_law_420 rfl 3 rfl ?_
                        refine g_iconst (v := 1) C dL_law_421 (by decide) ?_
                        refine g_iadd C dL_law_422 ?_
                        obtain ⟨v134, ev134, hf⟩ := ol_e hf
                        refine g_nm ev134 ?_
                        obtain ⟨h135, hf⟩ := og_e hf
                        refine g_sld C hX hbl hbA h135 dL_law_423 ?_
                        obtain ⟨v136, ev136, hf⟩ := ol_e hf
                        refine g_nm ev136 ?_
                        refine g_aload_n C dL_law_424 rfl 0 rfl ?_
                        refine g_iload_n C dL_law_425 rfl 3 rfl ?_
                        refine g_iconst (v := 2) C dL_law_426 (by decide) ?_
                        refine g_iadd C dL_law_427 ?_
                        obtain ⟨v137, ev137, hf⟩ := ol_e hf
                        refine g_nm ev137 ?_
                        obtain ⟨h138, hf⟩ := og_e hf
                        refine g_sld C hX hbl hbA h138 dL_law_428 ?_
                        obtain ⟨v139, ev139, hf⟩ := ol_e hf
                        refine g_nm ev139 ?_
                        obtain ⟨r140, σ141, h142, hf⟩ := obp_e hf
                        refine g_callVi (As := [.int v136, .int v139]) (rest := []) C (a_0 ad cy _) rfl (c_X10_fee l dC dI ad cy v136 v139) h142 hM_L_51 cal_X10_fee ⟨Nat.le_of_ble_eq_true rfl, Nat.le_of_ble_eq_true rfl⟩ ⟨rfl, rfl⟩ ⟨Nat.le_of_ble_eq_true rfl, Nat.le_of_ble_eq_true rfl⟩ rfl rfl (Nat.le_of_ble_eq_true rfl) dL_law_429 ?_
                        refine g_aload_n C dL_law_432 rfl 2 rfl ?_
                        refine g_aload_n C dL_law_433 rfl 0 rfl ?_
                        refine g_iload_n C dL_law_434 rfl 3 rfl ?_
                        refine g_iconst (v := 1) C dL_law_435 (by decide) ?_
                        refine g_iadd C dL_law_436 ?_
                        obtain ⟨v143, ev143, hf⟩ := ol_e hf
                        refine g_nm ev143 ?_
                        obtain ⟨h144, hf⟩ := og_e hf
                        refine g_sld C hX hbl hbA h144 dL_law_437 ?_
                        obtain ⟨v145, ev145, hf⟩ := ol_e hf
                        refine g_nm ev145 ?_
                        refine g_aload_n C dL_law_438 rfl 0 rfl ?_
                        refine g_iload_n C dL_law_439 rfl 3 rfl ?_
                        refine g_iconst (v := 2) C dL_law_440 (by decide) ?_
                        refine g_iadd C dL_law_441 ?_
                        obtain ⟨v146, ev146, hf⟩ := ol_e hf
                        refine g_nm ev146 ?_
                        obtain ⟨h147, hf⟩ := og_e hf
                        refine g_sld C hX hbl hbA h147 dL_law_442 ?_
                        obtain ⟨v148, ev148, hf⟩ := ol_e hf
                        refine g_nm ev148 ?_
                        obtain ⟨r149, σ150, h151, hf⟩ := obp_e hf
                        refine g_callVi (As := [.int v145, .int v148]) (rest := [.int r140]) C (a_98 ad cy _) rfl (c_X11_fee l dC dI ad cy v145 v148) h151 hM_L_54 cal_X11_fee ⟨Nat.le_of_ble_eq_true rfl, Nat.le_of_ble_eq_true rfl⟩ ⟨rfl, rfl⟩ ⟨Nat.le_of_ble_eq_true rfl, Nat.le_of_ble_eq_true rfl⟩ rfl rfl (Nat.le_of_ble_eq_true rfl) dL_law_443 ?_
                        rcases oi_e hf with ⟨c152, hf⟩ | ⟨c152, hf⟩
                        · refine g_icmp_eq_t (tgt := 1363) C dL_law_446 (by decide) c152 ?_
                          obtain ⟨v153, ev153, hf⟩ := ol_e hf
                          refine g_iinc (j := 3) (w := 5) (lv2 := [(0, .ref b), (1, .ref (ad 0)), (2, .ref (ad 98)), (3, .int v153)]) C dL_law_1363 rfl (by decide) ev153 (by decide) [1, 2, 3, 0] rfl ?_
                          refine g_goto (tgt := 18) C dL_law_1366 (by decide) ?_
                          exact g_sub [0, 1, 2, 3] rfl (hs_18 σ150 v153 hf)
                        · refine g_icmp_eq_f (tgt := 1363) C dL_law_446 (by decide) c152 ?_
                          refine g_iconst (v := 0) C dL_law_449 (by decide) ?_
                          exact absurd (os_e hf).1 (by decide)
                      · skip
                        rcases oi_e hf with ⟨c154, hf⟩ | ⟨c154, hf⟩
                        · refine g_tin (tgt := 451) C dL_law_32 (by rw [c154]; decide) (by rw [c154]; decide) (by rw [c154]; rfl) (by decide) ?_
                          refine g_aload_n C dL_law_451 rfl 1 rfl ?_
                          refine g_aload_n C dL_law_452 rfl 0 rfl ?_
                          refine g_iload_n C dL_law_453 rfl 3 rfl ?_
                          refine g_iconst (v := 1) C dL_law_454 (by decide) ?_
                          refine g_iadd C dL_law_455 ?_
                          obtain ⟨v155, ev155, hf⟩ := ol_e hf
                          refine g_nm ev155 ?_
                          obtain ⟨h156, hf⟩ := og_e hf
                          refine g_sld C hX hbl hbA h156 dL_law_456 ?_
                          obtain ⟨v157, ev157, hf⟩ := ol_e hf
                          refine g_nm ev157 ?_
                          refine g_aload_n C dL_law_457 rfl 0 rfl ?_
                          refine g_iload_n C dL_law_458 rfl 3 rfl ?_
                          refine g_iconst (v := 2) C dL_law_459 (by decide) ?_
                          refine g_iadd C dL_law_460 ?_
                          obtain ⟨v158, ev158, hf⟩ := ol_e hf
                          refine g_nm ev158 ?_
                          obtain ⟨h159, hf⟩ := og_e hf
                          refine g_sld C hX hbl hbA h159 dL_law_461 ?_
                          obtain ⟨v160, ev160, hf⟩ := ol_e hf
                          refine g_nm ev160 ?_
                          rcases oi_e hf with ⟨c161, hf⟩ | ⟨c161, hf⟩
                          · refine g_if_eq_t (tgt := 469) C dL_law_462 (by decide) c161 ?_
                            refine g_iconst (v := 0) C dL_law_469 (by decide) ?_
                            obtain ⟨r162, σ163, h164, hf⟩ := obp_e hf
                            refine g_callVi (As := [.int v157, .int 0]) (rest := []) C (a_0 ad cy _) rfl (c_X10_shut l dC dI ad cy v157 ((0 : Int32))) h164 hM_L_55 cal_X10_shut ⟨Nat.le_of_ble_eq_true rfl, Nat.le_of_ble_eq_true rfl⟩ ⟨rfl, rfl⟩ ⟨Nat.le_of_ble_eq_true rfl, Nat.le_of_ble_eq_true rfl⟩ rfl rfl (Nat.le_of_ble_eq_true rfl) dL_law_470 ?_
                            refine g_aload_n C dL_law_473 rfl 2 rfl ?_
                            refine g_aload_n C dL_law_474 rfl 0 rfl ?_
                            refine g_iload_n C dL_law_475 rfl 3 rfl ?_
                            refine g_iconst (v := 1) C dL_law_476 (by decide) ?_
                            refine g_iadd C dL_law_477 ?_
                            obtain ⟨v165, ev165, hf⟩ := ol_e hf
                            refine g_nm ev165 ?_
                            obtain ⟨h166, hf⟩ := og_e hf
                            refine g_sld C hX hbl hbA h166 dL_law_478 ?_
                            obtain ⟨v167, ev167, hf⟩ := ol_e hf
                            refine g_nm ev167 ?_
                            refine g_aload_n C dL_law_479 rfl 0 rfl ?_
                            refine g_iload_n C dL_law_480 rfl 3 rfl ?_
                            refine g_iconst (v := 2) C dL_law_481 (by decide) ?_
                            refine g_iadd C dL_law_482 ?_
                            obtain ⟨v168, ev168, hf⟩ := ol_e hf
                            refine g_nm ev168 ?_
                            obtain ⟨h169, hf⟩ := og_e hf
                            refine g_sld C hX hbl hbA h169 dL_law_483 ?_
                            obtain ⟨v170, ev170, hf⟩ := ol_e hf
                            refine g_nm ev170 ?_
                            rcases oi_e hf with ⟨c171, hf⟩ | ⟨c171, hf⟩
                            · refine g_if_eq_t (tgt := 491) C dL_law_484 (by decide) c171 ?_
                              refine g_iconst (v := 0) C dL_law_491 (by decide) ?_
                              obtain ⟨r172, σ173, h174, hf⟩ := obp_e hf
                              refine g_callVi (As := [.int v167, .int 0]) (rest := [.int r162]) C (a_98 ad cy _) rfl (c_X11_shut l dC dI ad cy v167 ((0 : Int32))) h174 hM_L_59 cal_X11_shut ⟨Nat.le_of_ble_eq_true rfl, Nat.le_of_ble_eq_true rfl⟩ ⟨rfl, rfl⟩ ⟨Nat.le_of_ble_eq_true rfl, Nat.le_of_ble_eq_true rfl⟩ rfl rfl (Nat.le_of_ble_eq_true rfl) dL_law_492 ?_
                              rcases oi_e hf with ⟨c175, hf⟩ | ⟨c175, hf⟩
                              · refine g_icmp_eq_t (tgt := 1363) C dL_law_495 (by decide) c175 ?_
                                obtain ⟨v176, ev176, hf⟩ := ol_e hf
                                refine g_iinc (j := 3) (w := 5) (lv2 := [(0, .ref b), (1, .ref (ad 0)), (2, .ref (ad 98)), (3, .int v176)]) C dL_law_1363 rfl (by decide) ev176 (by decide) [1, 2, 3, 0] rfl ?_
                                refine g_goto (tgt := 18) C dL_law_1366 (by decide) ?_
                                exact g_sub [0, 1, 2, 3] rfl (hs_18 σ173 v176 hf)
                              · refine g_icmp_eq_f (tgt := 1363) C dL_law_495 (by decide) c175 ?_
                                refine g_iconst (v := 0) C dL_law_498 (by decide) ?_
                                exact absurd (os_e hf).1 (by decide)
                            · refine g_if_eq_f (tgt := 491) C dL_law_484 (by decide) c171 ?_
                              refine g_iconst (v := 1) C dL_law_487 (by decide) ?_
                              refine g_goto (tgt := 492) C dL_law_488 (by decide) ?_
                              obtain ⟨r177, σ178, h179, hf⟩ := obp_e hf
                              refine g_callVi (As := [.int v167, .int 1]) (rest := [.int r162]) C (a_98 ad cy _) rfl (c_X11_shut l dC dI ad cy v167 ((1 : Int32))) h179 hM_L_59 cal_X11_shut ⟨Nat.le_of_ble_eq_true rfl, Nat.le_of_ble_eq_true rfl⟩ ⟨rfl, rfl⟩ ⟨Nat.le_of_ble_eq_true rfl, Nat.le_of_ble_eq_true rfl⟩ rfl rfl (Nat.le_of_ble_eq_true rfl) dL_law_492 ?_
                              rcases oi_e hf with ⟨c180, hf⟩ | ⟨c180, hf⟩
                              · refine g_icmp_eq_t (tgt := 1363) C dL_law_495 (by decide) c180 ?_
                                obtain ⟨v181, ev181, hf⟩ := ol_e hf
                                refine g_iinc (j := 3) (w := 5) (lv2 := [(0, .ref b), (1, .ref (ad 0)), (2, .ref (ad 98)), (3, .int v181)]) C dL_law_1363 rfl (by decide) ev181 (by decide) [1, 2, 3, 0] rfl ?_
                                refine g_goto (tgt := 18) C dL_law_1366 (by decide) ?_
                                exact g_sub [0, 1, 2, 3] rfl (hs_18 σ178 v181 hf)
                              · refine g_icmp_eq_f (tgt := 1363) C dL_law_495 (by decide) c180 ?_
                                refine g_iconst (v := 0) C dL_law_498 (by decide) ?_
                                exact absurd (os_e hf).1 (by decide)
                          · refine g_if_eq_f (tgt := 469) C dL_law_462 (by decide) c161 ?_
                            refine g_iconst (v := 1) C dL_law_465 (by decide) ?_
                            refine g_goto (tgt := 470) C dL_law_466 (by decide) ?_
                            obtain ⟨r182, σ183, h184, hf⟩ := obp_e hf
                            refine g_callVi (As := [.int v157, .int 1]) (rest := []) C (a_0 ad cy _) rfl (c_X10_shut l dC dI ad cy v157 ((1 : Int32))) h184 hM_L_55 cal_X10_shut ⟨Nat.le_of_ble_eq_true rfl, Nat.le_of_ble_eq_true rfl⟩ ⟨rfl, rfl⟩ ⟨Nat.le_of_ble_eq_true rfl, Nat.le_of_ble_eq_true rfl⟩ rfl rfl (Nat.le_of_ble_eq_true rfl) dL_law_470 ?_
                            refine g_aload_n C dL_law_473 rfl 2 rfl ?_
                            refine g_aload_n C dL_law_474 rfl 0 rfl ?_
                            refine g_iload_n C dL_law_475 rfl 3 rfl ?_
                            refine g_iconst (v := 1) C dL_law_476 (by decide) ?_
                            refine g_iadd C dL_law_477 ?_
                            obtain ⟨v185, ev185, hf⟩ := ol_e hf
                            refine g_nm ev185 ?_
                            obtain ⟨h186, hf⟩ := og_e hf
                            refine g_sld C hX hbl hbA h186 dL_law_478 ?_
                            obtain ⟨v187, ev187, hf⟩ := ol_e hf
                            refine g_nm ev187 ?_
                            refine g_aload_n C dL_law_479 rfl 0 rfl ?_
                            refine g_iload_n C dL_law_480 rfl 3 rfl ?_
                            refine g_iconst (v := 2) C dL_law_481 (by decide) ?_
                            refine g_iadd C dL_law_482 ?_
                            obtain ⟨v188, ev188, hf⟩ := ol_e hf
                            refine g_nm ev188 ?_
                            obtain ⟨h189, hf⟩ := og_e hf
                            refine g_sld C hX hbl hbA h189 dL_law_483 ?_
                            obtain ⟨v190, ev190, hf⟩ := ol_e hf
                            refine g_nm ev190 ?_
                            rcases oi_e hf with ⟨c191, hf⟩ | ⟨c191, hf⟩
                            · refine g_if_eq_t (tgt := 491) C dL_law_484 (by decide) c191 ?_
                              refine g_iconst (v := 0) C dL_law_491 (by decide) ?_
                              obtain ⟨r192, σ193, h194, hf⟩ := obp_e hf
                              refine g_callVi (As := [.int v187, .int 0]) (rest := [.int r182]) C (a_98 ad cy _) rfl (c_X11_shut l dC dI ad cy v187 ((0 : Int32))) h194 hM_L_59 cal_X11_shut ⟨Nat.le_of_ble_eq_true rfl, Nat.le_of_ble_eq_true rfl⟩ ⟨rfl, rfl⟩ ⟨Nat.le_of_ble_eq_true rfl, Nat.le_of_ble_eq_true rfl⟩ rfl rfl (Nat.le_of_ble_eq_true rfl) dL_law_492 ?_
                              rcases oi_e hf with ⟨c195, hf⟩ | ⟨c195, hf⟩
                              · refine g_icmp_eq_t (tgt := 1363) C dL_law_495 (by decide) c195 ?_
                                obtain ⟨v196, ev196, hf⟩ := ol_e hf
                                refine g_iinc (j := 3) (w := 5) (lv2 := [(0, .ref b), (1, .ref (ad 0)), (2, .ref (ad 98)), (3, .int v196)]) C dL_law_1363 rfl (by decide) ev196 (by decide) [1, 2, 3, 0] rfl ?_
                                refine g_goto (tgt := 18) C dL_law_1366 (by decide) ?_
                                exact g_sub [0, 1, 2, 3] rfl (hs_18 σ193 v196 hf)
                              · refine g_icmp_eq_f (tgt := 1363) C dL_law_495 (by decide) c195 ?_
                                refine g_iconst (v := 0) C dL_law_498 (by decide) ?_
                                exact absurd (os_e hf).1 (by decide)
                            · refine g_if_eq_f (tgt := 491) C dL_law_484 (by decide) c191 ?_
                              refine g_iconst (v := 1) C dL_law_487 (by decide) ?_
                              refine g_goto (tgt := 492) C dL_law_488 (by decide) ?_
                              obtain ⟨r197, σ198, h199, hf⟩ := obp_e hf
                              refine g_callVi (As := [.int v187, .int 1]) (rest := [.int r182]) C (a_98 ad cy _) rfl (c_X11_shut l dC dI ad cy v187 ((1 : Int32))) h199 hM_L_59 cal_X11_shut ⟨Nat.le_of_ble_eq_true rfl, Nat.le_of_ble_eq_true rfl⟩ ⟨rfl, rfl⟩ ⟨Nat.le_of_ble_eq_true rfl, Nat.le_of_ble_eq_true rfl⟩ rfl rfl (Nat.le_of_ble_eq_true rfl) dL_law_492 ?_
                              rcases oi_e hf with ⟨c200, hf⟩ | ⟨c200, hf⟩
                              · refine g_icmp_eq_t (tgt := 1363) C dL_law_495 (by decide) c200 ?_
                                obtain ⟨v201, ev201, hf⟩ := ol_e hf
                                refine g_iinc (j := 3) (w := 5) (lv2 := [(0, .ref b), (1, .ref (ad 0)), (2, .ref (ad 98)), (3, .int v201)]) C dL_law_1363 rfl (by decide) ev201 (by decide) [1, 2, 3, 0] rfl ?_
                                refine g_goto (tgt := 18) C dL_law_1366 (by decide) ?_
                                exact g_sub [0, 1, 2, 3] rfl (hs_18 σ198 v201 hf)
                              · refine g_icmp_eq_f (tgt := 1363) C dL_law_495 (by decide) c200 ?_
                                refine g_iconst (v := 0) C dL_law_498 (by decide) ?_
                                exact absurd (os_e hf).1 (by decide)
                        · skip
                          rcases oi_e hf with ⟨c202, hf⟩ | ⟨c202, hf⟩
                          · refine g_tin (tgt := 500) C dL_law_32 (by rw [c202]; decide) (by rw [c202]; decide) (by rw [c202]; rfl) (by decide) ?_
                            refine g_aload_n C dL_law_500 rfl 1 rfl ?_
                            refine g_aload_n C dL_law_501 rfl 0 rfl ?_
                            refine g_iload_n C dL_law_502 rfl 3 rfl ?_
                            refine g_iconst (v := 1) C dL_law_503 (by decide) ?_
                            refine g_iadd C dL_law_504 ?_
                            obtain ⟨v203, ev203, hf⟩ := ol_e hf
                            refine g_nm ev203 ?_
                            obtain ⟨h204, hf⟩ := og_e hf
                            refine g_sld C hX hbl hbA h204 dL_law_505 ?_
                            obtain ⟨v205, ev205, hf⟩ := ol_e hf
                            refine g_nm ev205 ?_
                            refine g_aload_n C dL_law_506 rfl 0 rfl ?_
                            refine g_iload_n C dL_law_507 rfl 3 rfl ?_
                            refine g_iconst (v := 2) C dL_law_508 (by decide) ?_
                            refine g_iadd C dL_law_509 ?_
                            obtain ⟨v206, ev206, hf⟩ := ol_e hf
                            refine g_nm ev206 ?_
                            obtain ⟨h207, hf⟩ := og_e hf
                            refine g_sld C hX hbl hbA h207 dL_law_510 ?_
                            obtain ⟨v208, ev208, hf⟩ := ol_e hf
                            refine g_nm ev208 ?_
                            obtain ⟨r209, σ210, h211, hf⟩ := obp_e hf
                            refine g_callVi (As := [.int v205, .int v208]) (rest := []) C (a_0 ad cy _) rfl (c_X10_sell l dC dI ad cy v205 v208) h211 hM_L_60 cal_X10_sell ⟨Nat.le_of_ble_eq_true rfl, Nat.le_of_ble_eq_true rfl⟩ ⟨rfl, rfl⟩ ⟨Nat.le_of_ble_eq_true rfl, Nat.le_of_ble_eq_true rfl⟩ rfl rfl (Nat.le_of_ble_eq_true rfl) dL_law_511 ?_
                            refine g_aload_n C dL_law_514 rfl 2 rfl ?_
                            refine g_aload_n C dL_law_515 rfl 0 rfl ?_
                            refine g_iload_n C dL_law_516 rfl 3 rfl ?_
                            refine g_iconst (v := 1) C dL_law_517 (by decide) ?_
                            refine g_iadd C dL_law_518 ?_
                            obtain ⟨v212, ev212, hf⟩ := ol_e hf
                            refine g_nm ev212 ?_
                            obtain ⟨h213, hf⟩ := og_e hf
                            refine g_sld C hX hbl hbA h213 dL_law_519 ?_
                            obtain ⟨v214, ev214, hf⟩ := ol_e hf
                            refine g_nm ev214 ?_
                            refine g_aload_n C dL_law_520 rfl 0 rfl ?_
                            refine g_iload_n C dL_law_521 rfl 3 rfl ?_
                            refine g_iconst (v := 2) C dL_law_522 (by decide) ?_
                            refine g_iadd C dL_law_523 ?_
                            obtain ⟨v215, ev215, hf⟩ := ol_e hf
                            refine g_nm ev215 ?_
                            obtain ⟨h216, hf⟩ := og_e hf
                            refine g_sld C hX hbl hbA h216 dL_law_524 ?_
                            obtain ⟨v217, ev217, hf⟩ := ol_e hf
                            refine g_nm ev217 ?_
                            obtain ⟨r218, σ219, h220, hf⟩ := obp_e hf
                            refine g_callVi (As := [.int v214, .int v217]) (rest := [.int r209]) C (a_98 ad cy _) rfl (c_X11_sell l dC dI ad cy v214 v217) h220 hM_L_63 cal_X11_sell ⟨Nat.le_of_ble_eq_true rfl, Nat.le_of_ble_eq_true rfl⟩ ⟨rfl, rfl⟩ ⟨Nat.le_of_ble_eq_true rfl, Nat.le_of_ble_eq_true rfl⟩ rfl rfl (Nat.le_of_ble_eq_true rfl) dL_law_525 ?_
                            rcases oi_e hf with ⟨c221, hf⟩ | ⟨c221, hf⟩
                            · refine g_icmp_eq_t (tgt := 1363) C dL_law_528 (by decide) c221 ?_
                              obtain ⟨v222, ev222, hf⟩ := ol_e hf
                              refine g_iinc (j := 3) (w := 5) (lv2 := [(0, .ref b), (1, .ref (ad 0)), (2, .ref (ad 98)), (3, .int v222)]) C dL_law_1363 rfl (by decide) ev222 (by decide) [1, 2, 3, 0] rfl ?_
                              refine g_goto (tgt := 18) C dL_law_1366 (by decide) ?_
                              exact g_sub [0, 1, 2, 3] rfl (hs_18 σ219 v222 hf)
                            · refine g_icmp_eq_f (tgt := 1363) C dL_law_528 (by decide) c221 ?_
                              refine g_iconst (v := 0) C dL_law_531 (by decide) ?_
                              exact absurd (os_e hf).1 (by decide)
                          · skip
                            rcases oi_e hf with ⟨c223, hf⟩ | ⟨c223, hf⟩
                            · refine g_tin (tgt := 533) C dL_law_32 (by rw [c223]; decide) (by rw [c223]; decide) (by rw [c223]; rfl) (by decide) ?_
                              refine g_aload_n C dL_law_533 rfl 1 rfl ?_
                              refine g_aload_n C dL_law_534 rfl 0 rfl ?_
                              refine g_iload_n C dL_law_535 rfl 3 rfl ?_
                              refine g_iconst (v := 1) C dL_law_536 (by decide) ?_
                              refine g_iadd C dL_law_537 ?_
                              obtain ⟨v224, ev224, hf⟩ := ol_e hf
                              refine g_nm ev224 ?_
                              obtain ⟨h225, hf⟩ := og_e hf
                              refine g_sld C hX hbl hbA h225 dL_law_538 ?_
                              obtain ⟨v226, ev226, hf⟩ := ol_e hf
                              refine g_nm ev226 ?_
                              refine g_aload_n C dL_law_539 rfl 0 rfl ?_
                              refine g_iload_n C dL_law_540 rfl 3 rfl ?_
                              refine g_iconst (v := 2) C dL_law_541 (by decide) ?_
                              refine g_iadd C dL_law_542 ?_
                              obtain ⟨v227, ev227, hf⟩ := ol_e hf
                              refine g_nm ev227 ?_
                              obtain ⟨h228, hf⟩ := og_e hf
                              refine g_sld C hX hbl hbA h228 dL_law_543 ?_
                              obtain ⟨v229, ev229, hf⟩ := ol_e hf
                              refine g_nm ev229 ?_
                              obtain ⟨r230, σ231, h232, hf⟩ := obp_e hf
                              refine g_callVi (As := [.int v226, .int v229]) (rest := []) C (a_0 ad cy _) rfl (c_X10_half l dC dI ad cy v226 v229) h232 hM_L_64 cal_X10_half ⟨Nat.le_of_ble_eq_true rfl, Nat.le_of_ble_eq_true rfl⟩ ⟨rfl, rfl⟩ ⟨Nat.le_of_ble_eq_true rfl, Nat.le_of_ble_eq_true rfl⟩ rfl rfl (Nat.le_of_ble_eq_true rfl) dL_law_544 ?_
                              refine g_aload_n C dL_law_547 rfl 2 rfl ?_
                              refine g_aload_n C dL_law_548 rfl 0 rfl ?_
                              refine g_iload_n C dL_law_549 rfl 3 rfl ?_
                              refine g_iconst (v := 1) C dL_law_550 (by decide) ?_
                              refine g_iadd C dL_law_551 ?_
                              obtain ⟨v233, ev233, hf⟩ := ol_e hf
                              refine g_nm ev233 ?_
                              obtain ⟨h234, hf⟩ := og_e hf
                              refine g_sld C hX hbl hbA h234 dL_law_552 ?_
                              obtain ⟨v235, ev235, hf⟩ := ol_e hf
                              refine g_nm ev235 ?_
                              refine g_aload_n C dL_law_553 rfl 0 rfl ?_
                              refine g_iload_n C dL_law_554 rfl 3 rfl ?_
                              refine g_iconst (v := 2) C dL_law_555 (by decide) ?_
                              refine g_iadd C dL_law_556 ?_
                              obtain ⟨v236, ev236, hf⟩ := ol_e hf
                              refine g_nm ev236 ?_
                              obtain ⟨h237, hf⟩ := og_e hf
                              refine g_sld C hX hbl hbA h237 dL_law_557 ?_
                              obtain ⟨v238, ev238, hf⟩ := ol_e hf
                              refine g_nm ev238 ?_
                              obtain ⟨r239, σ240, h241, hf⟩ := obp_e hf
                              refine g_callVi (As := [.int v235, .int v238]) (rest := [.int r230]) C (a_98 ad cy _) rfl (c_X11_half l dC dI ad cy v235 v238) h241 hM_L_67 cal_X11_half ⟨Nat.le_of_ble_eq_true rfl, Nat.le_of_ble_eq_true rfl⟩ ⟨rfl, rfl⟩ ⟨Nat.le_of_ble_eq_true rfl, Nat.le_of_ble_eq_true rfl⟩ rfl rfl (Nat.le_of_ble_eq_true rfl) dL_law_558 ?_
                              rcases oi_e hf with ⟨c242, hf⟩ | ⟨c242, hf⟩
                              · refine g_icmp_eq_t (tgt := 1363) C dL_law_561 (by decide) c242 ?_
                                obtain ⟨v243, ev243, hf⟩ := ol_e hf
                                refine g_iinc (j := 3) (w := 5) (lv2 := [(0, .ref b), (1, .ref (ad 0)), (2, .ref (ad 98)), (3, .int v243)]) C dL_law_1363 rfl (by decide) ev243 (by decide) [1, 2, 3, 0] rfl ?_
                                refine g_goto (tgt := 18) C dL_law_1366 (by decide) ?_
                                exact g_sub [0, 1, 2, 3] rfl (hs_18 σ240 v243 hf)
                              · refine g_icmp_eq_f (tgt := 1363) C dL_law_561 (by decide) c242 ?_
                                refine g_iconst (v := 0) C dL_law_564 (by decide) ?_
                                exact absurd (os_e hf).1 (by decide)
                            · skip
                              rcases oi_e hf with ⟨c244, hf⟩ | ⟨c244, hf⟩
                              · refine g_tin (tgt := 566) C dL_law_32 (by rw [c244]; decide) (by rw [c244]; decide) (by rw [c244]; rfl) (by decide) ?_
                                refine g_aload_n C dL_law_566 rfl 1 rfl ?_
                                refine g_aload_n C dL_law_567 rfl 0 rfl ?_
                                refine g_iload_n C dL_law_568 rfl 3 rfl ?_
                                refine g_iconst (v := 1) C dL_law_569 (by decide) ?_
                                refine g_iadd C dL_law_570 ?_
                                obtain ⟨v245, ev245, hf⟩ := ol_e hf
                                refine g_nm ev245 ?_
                                obtain ⟨h246, hf⟩ := og_e hf
                                refine g_sld C hX hbl hbA h246 dL_law_571 ?_
                                obtain ⟨v247, ev247, hf⟩ := ol_e hf
                                refine g_nm ev247 ?_
                                refine g_aload_n C dL_law_572 rfl 0 rfl ?_
                                refine g_iload_n C dL_law_573 rfl 3 rfl ?_
                                refine g_iconst (v := 2) C dL_law_574 (by decide) ?_
                                refine g_iadd C dL_law_575 ?_
                                obtain ⟨v248, ev248, hf⟩ := ol_e hf
                                refine g_nm ev248 ?_
                                obtain ⟨h249, hf⟩ := og_e hf
                                refine g_sld C hX hbl hbA h249 dL_law_576 ?_
                                obtain ⟨v250, ev250, hf⟩ := ol_e hf
                                refine g_nm ev250 ?_
                                refine g_aload_n C dL_law_577 rfl 0 rfl ?_
                                refine g_iload_n C dL_law_578 rfl 3 rfl ?_
                                refine g_iconst (v := 3) C dL_law_579 (by decide) ?_
                                refine g_iadd C dL_law_580 ?_
                                obtain ⟨v251, ev251, hf⟩ := ol_e hf
                                refine g_nm ev251 ?_
                                obtain ⟨h252, hf⟩ := og_e hf
                                refine g_sld C hX hbl hbA h252 dL_law_581 ?_
                                obtain ⟨v253, ev253, hf⟩ := ol_e hf
                                refine g_nm ev253 ?_
                                rcases oi_e hf with ⟨c254, hf⟩ | ⟨c254, hf⟩
                                · refine g_if_eq_t (tgt := 589) C dL_law_582 (by decide) c254 ?_
                                  refine g_iconst (v := 0) C dL_law_589 (by decide) ?_
                                  obtain ⟨r255, σ256, h257, hf⟩ := obp_e hf
                                  refine g_callVi (As := [.int v247, .int v250, .int 0]) (rest := []) C (a_0 ad cy _) rfl (c_X10_feud l dC dI ad cy v247 v250 ((0 : Int32))) h257 hM_L_68 cal_X10_feud ⟨Nat.le_of_ble_eq_true rfl, Nat.le_of_ble_eq_true rfl⟩ ⟨rfl, rfl⟩ ⟨Nat.le_of_ble_eq_true rfl, Nat.le_of_ble_eq_true rfl⟩ rfl rfl (Nat.le_of_ble_eq_true rfl) dL_law_590 ?_
                                  refine g_aload_n C dL_law_593 rfl 2 rfl ?_
                                  refine g_aload_n C dL_law_594 rfl 0 rfl ?_
                                  refine g_iload_n C dL_law_595 rfl 3 rfl ?_
                                  refine g_iconst (v := 1) C dL_law_596 (by decide) ?_
                                  refine g_iadd C dL_law_597 ?_
                                  obtain ⟨v258, ev258, hf⟩ := ol_e hf
                                  refine g_nm ev258 ?_
                                  obtain ⟨h259, hf⟩ := og_e hf
                                  refine g_sld C hX hbl hbA h259 dL_law_598 ?_
                                  obtain ⟨v260, ev260, hf⟩ := ol_e hf
                                  refine g_nm ev260 ?_
                                  refine g_aload_n C dL_law_599 rfl 0 rfl ?_
                                  refine g_iload_n C dL_law_600 rfl 3 rfl ?_
                                  refine g_iconst (v := 2) C dL_law_601 (by decide) ?_
                                  refine g_iadd C dL_law_602 ?_
                                  obtain ⟨v261, ev261, hf⟩ := ol_e hf
                                  refine g_nm ev261 ?_
                                  obtain ⟨h262, hf⟩ := og_e hf
                                  refine g_sld C hX hbl hbA h262 dL_law_603 ?_
                                  obtain ⟨v263, ev263, hf⟩ := ol_e hf
                                  refine g_nm ev263 ?_
                                  refine g_aload_n C dL_law_604 rfl 0 rfl ?_
                                  refine g_iload_n C dL_law_605 rfl 3 rfl ?_
                                  refine g_iconst (v := 3) C dL_law_606 (by decide) ?_
                                  refine g_iadd C dL_law_607 ?_
                                  obtain ⟨v264, ev264, hf⟩ := ol_e hf
                                  refine g_nm ev264 ?_
                                  obtain ⟨h265, hf⟩ := og_e hf
                                  refine g_sld C hX hbl hbA h265 dL_law_608 ?_
                                  obtain ⟨v266, ev266, hf⟩ := ol_e hf
                                  refine g_nm ev266 ?_
                                  rcases oi_e hf with ⟨c267, hf⟩ | ⟨c267, hf⟩
                                  · refine g_if_eq_t (tgt := 616) C dL_law_609 (by decide) c267 ?_
                                    refine g_iconst (v := 0) C dL_law_616 (by decide) ?_
                                    obtain ⟨r268, σ269, h270, hf⟩ := obp_e hf
                                    refine g_callVi (As := [.int v260, .int v263, .int 0]) (rest := [.int r255]) C (a_98 ad cy _) rfl (c_X11_feud l dC dI ad cy v260 v263 ((0 : Int32))) h270 hM_L_72 cal_X11_feud ⟨Nat.le_of_ble_eq_true rfl, Nat.le_of_ble_eq_true rfl⟩ ⟨rfl, rfl⟩ ⟨Nat.le_of_ble_eq_true rfl, Nat.le_of_ble_eq_true rfl⟩ rfl rfl (Nat.le_of_ble_eq_true rfl) dL_law_617 ?_
                                    rcases oi_e hf with ⟨c271, hf⟩ | ⟨c271, hf⟩
                                    · refine g_icmp_eq_t (tgt := 1363) C dL_law_620 (by decide) c271 ?_
                                      obtain ⟨v272, ev272, hf⟩ := ol_e hf
                                      refine g_iinc (j := 3) (w := 5) (lv2 := [(0, .ref b), (1, .ref (ad 0)), (2, .ref (ad 98)), (3, .int v272)]) C dL_law_1363 rfl (by decide) ev272 (by decide) [1, 2, 3, 0] rfl ?_
                                      refine g_goto (tgt := 18) C dL_law_1366 (by decide) ?_
                                      exact g_sub [0, 1, 2, 3] rfl (hs_18 σ269 v272 hf)
                                    · refine g_icmp_eq_f (tgt := 1363) C dL_law_620 (by decide) c271 ?_
                                      refine g_iconst (v := 0) C dL_law_623 (by decide) ?_
                                      exact absurd (os_e hf).1 (by decide)
                                  · refine g_if_eq_f (tgt := 616) C dL_law_609 (by decide) c267 ?_
                                    refine g_iconst (v := 1) C dL_law_612 (by decide) ?_
                                    refine g_goto (tgt := 617) C dL_law_613 (by decide) ?_
                                    obtain ⟨r273, σ274, h275, hf⟩ := obp_e hf
                                    refine g_callVi (As := [.int v260, .int v263, .int 1]) (rest := [.int r255]) C (a_98 ad cy _) rfl (c_X11_feud l dC dI ad cy v260 v263 ((1 : Int32))) h275 hM_L_72 cal_X11_feud ⟨Nat.le_of_ble_eq_true rfl, Nat.le_of_ble_eq_true rfl⟩ ⟨rfl, rfl⟩ ⟨Nat.le_of_ble_eq_true rfl, Nat.le_of_ble_eq_true rfl⟩ rfl rfl (Nat.le_of_ble_eq_true rfl) dL_law_617 ?_
                                    rcases oi_e hf with ⟨c276, hf⟩ | ⟨c276, hf⟩
                                    · refine g_icmp_eq_t (tgt := 1363) C dL_law_620 (by decide) c276 ?_
                                      obtain ⟨v277, ev277, hf⟩ := ol_e hf
                                      refine g_iinc (j := 3) (w := 5) (lv2 := [(0, .ref b), (1, .ref (ad 0)), (2, .ref (ad 98)), (3, .int v277)]) C dL_law_1363 rfl (by decide) ev277 (by decide) [1, 2, 3, 0] rfl ?_
                                      refine g_goto (tgt := 18) C dL_law_1366 (by decide) ?_
                                      exact g_sub [0, 1, 2, 3] rfl (hs_18 σ274 v277 hf)
                                    · refine g_icmp_eq_f (tgt := 1363) C dL_law_620 (by decide) c276 ?_
                                      refine g_iconst (v := 0) C dL_law_623 (by decide) ?_
                                      exact absurd (os_e hf).1 (by decide)
                                · refine g_if_eq_f (tgt := 589) C dL_law_582 (by decide) c254 ?_
                                  refine g_iconst (v := 1) C dL_law_585 (by decide) ?_
                                  refine g_goto (tgt := 590) C dL_law_586 (by decide) ?_
                                  obtain ⟨r278, σ279, h280, hf⟩ := obp_e hf
                                  refine g_callVi (As := [.int v247, .int v250, .int 1]) (rest := []) C (a_0 ad cy _) rfl (c_X10_feud l dC dI ad cy v247 v250 ((1 : Int32))) h280 hM_L_68 cal_X10_feud ⟨Nat.le_of_ble_eq_true rfl, Nat.le_of_ble_eq_true rfl⟩ ⟨rfl, rfl⟩ ⟨Nat.le_of_ble_eq_true rfl, Nat.le_of_ble_eq_true rfl⟩ rfl rfl (Nat.le_of_ble_eq_true rfl) dL_law_590 ?_
                                  refine g_aload_n C dL_law_593 rfl 2 rfl ?_
                                  refine g_aload_n C dL_law_594 rfl 0 rfl ?_
                                  refine g_iload_n C dL_law_595 rfl 3 rfl ?_
                                  refine g_iconst (v := 1) C dL_law_596 (by decide) ?_
                                  refine g_iadd C dL_law_597 ?_
                                  obtain ⟨v281, ev281, hf⟩ := ol_e hf
                                  refine g_nm ev281 ?_
                                  obtain ⟨h282, hf⟩ := og_e hf
                                  refine g_sld C hX hbl hbA h282 dL_law_598 ?_
                                  obtain ⟨v283, ev283, hf⟩ := ol_e hf
                                  refine g_nm ev283 ?_
                                  refine g_aload_n C dL_law_599 rfl 0 rfl ?_
                                  refine g_iload_n C dL_law_600 rfl 3 rfl ?_
                                  refine g_iconst (v := 2) C dL_law_601 (by decide) ?_
                                  refine g_iadd C dL_law_602 ?_
                                  obtain ⟨v284, ev284, hf⟩ := ol_e hf
                                  refine g_nm ev284 ?_
                                  obtain ⟨h285, hf⟩ := og_e hf
                                  refine g_sld C hX hbl hbA h285 dL_law_603 ?_
                                  obtain ⟨v286, ev286, hf⟩ := ol_e hf
                                  refine g_nm ev286 ?_
                                  refine g_aload_n C dL_law_604 rfl 0 rfl ?_
                                  refine g_iload_n C dL_law_605 rfl 3 rfl ?_
                                  refine g_iconst (v := 3) C dL_law_606 (by decide) ?_
                                  refine g_iadd C dL_law_607 ?_
                                  obtain ⟨v287, ev287, hf⟩ := ol_e hf
                                  refine g_nm ev287 ?_
                                  obtain ⟨h288, hf⟩ := og_e hf
                                  refine g_sld C hX hbl hbA h288 dL_law_608 ?_
                                  obtain ⟨v289, ev289, hf⟩ := ol_e hf
                                  refine g_nm ev289 ?_
                                  rcases oi_e hf with ⟨c290, hf⟩ | ⟨c290, hf⟩
                                  · refine g_if_eq_t (tgt := 616) C dL_law_609 (by decide) c290 ?_
                                    refine g_iconst (v := 0) C dL_law_616 (by decide) ?_
                                    obtain ⟨r291, σ292, h293, hf⟩ := obp_e hf
                                    refine g_callVi (As := [.int v283, .int v286, .int 0]) (rest := [.int r278]) C (a_98 ad cy _) rfl (c_X11_feud l dC dI ad cy v283 v286 ((0 : Int32))) h293 hM_L_72 cal_X11_feud ⟨Nat.le_of_ble_eq_true rfl, Nat.le_of_ble_eq_true rfl⟩ ⟨rfl, rfl⟩ ⟨Nat.le_of_ble_eq_true rfl, Nat.le_of_ble_eq_true rfl⟩ rfl rfl (Nat.le_of_ble_eq_true rfl) dL_law_617 ?_
                                    rcases oi_e hf with ⟨c294, hf⟩ | ⟨c294, hf⟩
                                    · refine g_icmp_eq_t (tgt := 1363) C dL_law_620 (by decide) c294 ?_
                                      obtain ⟨v295, ev295, hf⟩ := ol_e hf
                                      refine g_iinc (j := 3) (w := 5) (lv2 := [(0, .ref b), (1, .ref (ad 0)), (2, .ref (ad 98)), (3, .int v295)]) C dL_law_1363 rfl (by decide) ev295 (by decide) [1, 2, 3, 0] rfl ?_
                                      refine g_goto (tgt := 18) C dL_law_1366 (by decide) ?_
                                      exact g_sub [0, 1, 2, 3] rfl (hs_18 σ292 v295 hf)
                                    · refine g_icmp_eq_f (tgt := 1363) C dL_law_620 (by decide) c294 ?_
                                      refine g_iconst (v := 0) C dL_law_623 (by decide) ?_
                                      exact absurd (os_e hf).1 (by decide)
                                  · refine g_if_eq_f (tgt := 616) C dL_law_609 (by decide) c290 ?_
                                    refine g_iconst (v := 1) C dL_law_612 (by decide) ?_
                                    refine g_goto (tgt := 617) C dL_law_613 (by decide) ?_
                                    obtain ⟨r296, σ297, h298, hf⟩ := obp_e hf
                                    refine g_callVi (As := [.int v283, .int v286, .int 1]) (rest := [.int r278]) C (a_98 ad cy _) rfl (c_X11_feud l dC dI ad cy v283 v286 ((1 : Int32))) h298 hM_L_72 cal_X11_feud ⟨Nat.le_of_ble_eq_true rfl, Nat.le_of_ble_eq_true rfl⟩ ⟨rfl, rfl⟩ ⟨Nat.le_of_ble_eq_true rfl, Nat.le_of_ble_eq_true rfl⟩ rfl rfl (Nat.le_of_ble_eq_true rfl) dL_law_617 ?_
                                    rcases oi_e hf with ⟨c299, hf⟩ | ⟨c299, hf⟩
                                    · refine g_icmp_eq_t (tgt := 1363) C dL_law_620 (by decide) c299 ?_
                                      obtain ⟨v300, ev300, hf⟩ := ol_e hf
                                      refine g_iinc (j := 3) (w := 5) (lv2 := [(0, .ref b), (1, .ref (ad 0)), (2, .ref (ad 98)), (3, .int v300)]) C dL_law_1363 rfl (by decide) ev300 (by decide) [1, 2, 3, 0] rfl ?_
                                      refine g_goto (tgt := 18) C dL_law_1366 (by decide) ?_
                                      exact g_sub [0, 1, 2, 3] rfl (hs_18 σ297 v300 hf)
                                    · refine g_icmp_eq_f (tgt := 1363) C dL_law_620 (by decide) c299 ?_
                                      refine g_iconst (v := 0) C dL_law_623 (by decide) ?_
                                      exact absurd (os_e hf).1 (by decide)
                              · skip
                                rcases oi_e hf with ⟨c301, hf⟩ | ⟨c301, hf⟩
                                · refine g_tin (tgt := 625) C dL_law_32 (by rw [c301]; decide) (by rw [c301]; decide) (by rw [c301]; rfl) (by decide) ?_
                                  refine g_aload_n C dL_law_625 rfl 1 rfl ?_
                                  refine g_aload_n C dL_law_626 rfl 0 rfl ?_
                                  refine g_iload_n C dL_law_627 rfl 3 rfl ?_
                                  refine g_iconst (v := 1) C dL_law_628 (by decide) ?_
                                  refine g_iadd C dL_law_629 ?_
                                  obtain ⟨v302, ev302, hf⟩ := ol_e hf
                                  refine g_nm ev302 ?_
                                  obtain ⟨h303, hf⟩ := og_e hf
                                  refine g_sld C hX hbl hbA h303 dL_law_630 ?_
                                  obtain ⟨v304, ev304, hf⟩ := ol_e hf
                                  refine g_nm ev304 ?_
                                  obtain ⟨r305, σ306, h307, hf⟩ := obp_e hf
                                  refine g_callVi (As := [.int v304]) (rest := []) C (a_0 ad cy _) rfl (c_X10_feuding l dC dI ad cy v304) h307 hM_L_73 cal_X10_feuding ⟨Nat.le_of_ble_eq_true rfl, Nat.le_of_ble_eq_true rfl⟩ ⟨rfl, rfl⟩ ⟨Nat.le_of_ble_eq_true rfl, Nat.le_of_ble_eq_true rfl⟩ rfl rfl (Nat.le_of_ble_eq_true rfl) dL_law_631 ?_
                                  refine g_aload_n C dL_law_634 rfl 2 rfl ?_
                                  refine g_aload_n C dL_law_635 rfl 0 rfl ?_
                                  refine g_iload_n C dL_law_636 rfl 3 rfl ?_
                                  refine g_iconst (v := 1) C dL_law_637 (by decide) ?_
                                  refine g_iadd C dL_law_638 ?_
                                  obtain ⟨v308, ev308, hf⟩ := ol_e hf
                                  refine g_nm ev308 ?_
                                  obtain ⟨h309, hf⟩ := og_e hf
                                  refine g_sld C hX hbl hbA h309 dL_law_639 ?_
                                  obtain ⟨v310, ev310, hf⟩ := ol_e hf
                                  refine g_nm ev310 ?_
                                  obtain ⟨r311, σ312, h313, hf⟩ := obp_e hf
                                  refine g_callVi (As := [.int v310]) (rest := [.int r305]) C (a_98 ad cy _) rfl (c_X11_feuding l dC dI ad cy v310) h313 hM_L_76 cal_X11_feuding ⟨Nat.le_of_ble_eq_true rfl, Nat.le_of_ble_eq_true rfl⟩ ⟨rfl, rfl⟩ ⟨Nat.le_of_ble_eq_true rfl, Nat.le_of_ble_eq_true rfl⟩ rfl rfl (Nat.le_of_ble_eq_true rfl) dL_law_640 ?_
                                  rcases oi_e hf with ⟨c314, hf⟩ | ⟨c314, hf⟩
                                  · refine g_icmp_eq_t (tgt := 1363) C dL_law_643 (by decide) c314 ?_
                                    obtain ⟨v315, ev315, hf⟩ := ol_e hf
                                    refine g_iinc (j := 3) (w := 5) (lv2 := [(0, .ref b), (1, .ref (ad 0)), (2, .ref (ad 98)), (3, .int v315)]) C dL_law_1363 rfl (by decide) ev315 (by decide) [1, 2, 3, 0] rfl ?_
                                    refine g_goto (tgt := 18) C dL_law_1366 (by decide) ?_
                                    exact g_sub [0, 1, 2, 3] rfl (hs_18 σ312 v315 hf)
                                  · refine g_icmp_eq_f (tgt := 1363) C dL_law_643 (by decide) c314 ?_
                                    refine g_iconst (v := 0) C dL_law_646 (by decide) ?_
                                    exact absurd (os_e hf).1 (by decide)
                                · skip
                                  rcases oi_e hf with ⟨c316, hf⟩ | ⟨c316, hf⟩
                                  · refine g_tin (tgt := 648) C dL_law_32 (by rw [c316]; decide) (by rw [c316]; decide) (by rw [c316]; rfl) (by decide) ?_
                                    refine g_aload_n C dL_law_648 rfl 1 rfl ?_
                                    refine g_aload_n C dL_law_649 rfl 0 rfl ?_
                                    refine g_iload_n C dL_law_650 rfl 3 rfl ?_
                                    refine g_iconst (v := 1) C dL_law_651 (by decide) ?_
                                    refine g_iadd C dL_law_652 ?_
                                    obtain ⟨v317, ev317, hf⟩ := ol_e hf
                                    refine g_nm ev317 ?_
                                    obtain ⟨h318, hf⟩ := og_e hf
                                    refine g_sld C hX hbl hbA h318 dL_law_653 ?_
                                    obtain ⟨v319, ev319, hf⟩ := ol_e hf
                                    refine g_nm ev319 ?_
                                    refine g_aload_n C dL_law_654 rfl 0 rfl ?_
                                    refine g_iload_n C dL_law_655 rfl 3 rfl ?_
                                    refine g_iconst (v := 2) C dL_law_656 (by decide) ?_
                                    refine g_iadd C dL_law_657 ?_
                                    obtain ⟨v320, ev320, hf⟩ := ol_e hf
                                    refine g_nm ev320 ?_
                                    obtain ⟨h321, hf⟩ := og_e hf
                                    refine g_sld C hX hbl hbA h321 dL_law_658 ?_
                                    obtain ⟨v322, ev322, hf⟩ := ol_e hf
                                    refine g_nm ev322 ?_
                                    obtain ⟨r323, σ324, h325, hf⟩ := obp_e hf
                                    refine g_callVi (As := [.int v319, .int v322]) (rest := []) C (a_0 ad cy _) rfl (c_X10_ring l dC dI ad cy v319 v322) h325 hM_L_77 cal_X10_ring ⟨Nat.le_of_ble_eq_true rfl, Nat.le_of_ble_eq_true rfl⟩ ⟨rfl, rfl⟩ ⟨Nat.le_of_ble_eq_true rfl, Nat.le_of_ble_eq_true rfl⟩ rfl rfl (Nat.le_of_ble_eq_true rfl) dL_law_659 ?_
                                    refine g_aload_n C dL_law_662 rfl 2 rfl ?_
                                    refine g_aload_n C dL_law_663 rfl 0 rfl ?_
                                    refine g_iload_n C dL_law_664 rfl 3 rfl ?_
                                    refine g_iconst (v := 1) C dL_law_665 (by decide) ?_
                                    refine g_iadd C dL_law_666 ?_
                                    obtain ⟨v326, ev326, hf⟩ := ol_e hf
                                    refine g_nm ev326 ?_
                                    obtain ⟨h327, hf⟩ := og_e hf
                                    refine g_sld C hX hbl hbA h327 dL_law_667 ?_
                                    obtain ⟨v328, ev328, hf⟩ := ol_e hf
                                    refine g_nm ev328 ?_
                                    refine g_aload_n C dL_law_668 rfl 0 rfl ?_
                                    refine g_iload_n C dL_law_669 rfl 3 rfl ?_
                                    refine g_iconst (v := 2) C dL_law_670 (by decide) ?_
                                    refine g_iadd C dL_law_671 ?_
                                    obtain ⟨v329, ev329, hf⟩ := ol_e hf
                                    refine g_nm ev329 ?_
                                    obtain ⟨h330, hf⟩ := og_e hf
                                    refine g_sld C hX hbl hbA h330 dL_law_672 ?_
                                    obtain ⟨v331, ev331, hf⟩ := ol_e hf
                                    refine g_nm ev331 ?_
                                    obtain ⟨r332, σ333, h334, hf⟩ := obp_e hf
                                    refine g_callVi (As := [.int v328, .int v331]) (rest := [.int r323]) C (a_98 ad cy _) rfl (c_X11_ring l dC dI ad cy v328 v331) h334 hM_L_80 cal_X11_ring ⟨Nat.le_of_ble_eq_true rfl, Nat.le_of_ble_eq_true rfl⟩ ⟨rfl, rfl⟩ ⟨Nat.le_of_ble_eq_true rfl, Nat.le_of_ble_eq_true rfl⟩ rfl rfl (Nat.le_of_ble_eq_true rfl) dL_law_673 ?_
                                    rcases oi_e hf with ⟨c335, hf⟩ | ⟨c335, hf⟩
                                    · refine g_icmp_eq_t (tgt := 1363) C dL_law_676 (by decide) c335 ?_
                                      obtain ⟨v336, ev336, hf⟩ := ol_e hf
                                      refine g_iinc (j := 3) (w := 5) (lv2 := [(0, .ref b), (1, .ref (ad 0)), (2, .ref (ad 98)), (3, .int v336)]) C dL_law_1363 rfl (by decide) ev336 (by decide) [1, 2, 3, 0] rfl ?_
                                      refine g_goto (tgt := 18) C dL_law_1366 (by decide) ?_
                                      exact g_sub [0, 1, 2, 3] rfl (hs_18 σ333 v336 hf)
                                    · refine g_icmp_eq_f (tgt := 1363) C dL_law_676 (by decide) c335 ?_
                                      refine g_iconst (v := 0) C dL_law_679 (by decide) ?_
                                      exact absurd (os_e hf).1 (by decide)
                                  · skip
                                    rcases oi_e hf with ⟨c337, hf⟩ | ⟨c337, hf⟩
                                    · refine g_tin (tgt := 681) C dL_law_32 (by rw [c337]; decide) (by rw [c337]; decide) (by rw [c337]; rfl) (by decide) ?_
                                      refine g_aload_n C dL_law_681 rfl 1 rfl ?_
                                      obtain ⟨r338, σ339, h340, hf⟩ := obp_e hf
                                      refine g_callVi (As := []) (rest := []) C (a_0 ad cy _) rfl (c_X10_taken l dC dI ad cy ) h340 hM_L_81 cal_X10_taken ⟨Nat.le_of_ble_eq_true rfl, Nat.le_of_ble_eq_true rfl⟩ ⟨rfl, rfl⟩ ⟨Nat.le_of_ble_eq_true rfl, Nat.le_of_ble_eq_true rfl⟩ rfl rfl (Nat.le_of_ble_eq_true rfl) dL_law_682 ?_
                                      refine g_aload_n C dL_law_685 rfl 2 rfl ?_
                                      obtain ⟨r341, σ342, h343, hf⟩ := obp_e hf
                                      refine g_callVi (As := []) (rest := [.int r338]) C (a_98 ad cy _) rfl (c_X11_taken l dC dI ad cy ) h343 hM_L_84 cal_X11_taken ⟨Nat.le_of_ble_eq_true rfl, Nat.le_of_ble_eq_true rfl⟩ ⟨rfl, rfl⟩ ⟨Nat.le_of_ble_eq_true rfl, Nat.le_of_ble_eq_true rfl⟩ rfl rfl (Nat.le_of_ble_eq_true rfl) dL_law_686 ?_
                                      rcases oi_e hf with ⟨c344, hf⟩ | ⟨c344, hf⟩
                                      · refine g_icmp_eq_t (tgt := 1363) C dL_law_689 (by decide) c344 ?_
                                        obtain ⟨v345, ev345, hf⟩ := ol_e hf
                                        refine g_iinc (j := 3) (w := 5) (lv2 := [(0, .ref b), (1, .ref (ad 0)), (2, .ref (ad 98)), (3, .int v345)]) C dL_law_1363 rfl (by decide) ev345 (by decide) [1, 2, 3, 0] rfl ?_
                                        refine g_goto (tgt := 18) C dL_law_1366 (by decide) ?_
                                        exact g_sub [0, 1, 2, 3] rfl (hs_18 σ342 v345 hf)
                                      · refine g_icmp_eq_f (tgt := 1363) C dL_law_689 (by decide) c344 ?_
                                        refine g_iconst (v := 0) C dL_law_692 (by decide) ?_
                                        exact absurd (os_e hf).1 (by decide)
                                    · skip
                                      rcases oi_e hf with ⟨c346, hf⟩ | ⟨c346, hf⟩
                                      · refine g_tin (tgt := 694) C dL_law_32 (by rw [c346]; decide) (by rw [c346]; decide) (by rw [c346]; rfl) (by decide) ?_
                                        refine g_aload_n C dL_law_694 rfl 1 rfl ?_
                                        refine g_aload_n C dL_law_695 rfl 0 rfl ?_
                                        refine g_iload_n C dL_law_696 rfl 3 rfl ?_
                                        refine g_iconst (v := 1) C dL_law_697 (by decide) ?_
                                        refine g_iadd C dL_law_698 ?_
                                        obtain ⟨v347, ev347, hf⟩ := ol_e hf
                                        refine g_nm ev347 ?_
                                        obtain ⟨h348, hf⟩ := og_e hf
                                        refine g_sld C hX hbl hbA h348 dL_law_699 ?_
                                        obtain ⟨v349, ev349, hf⟩ := ol_e hf
                                        refine g_nm ev349 ?_
                                        refine g_aload_n C dL_law_700 rfl 0 rfl ?_
                                        refine g_iload_n C dL_law_701 rfl 3 rfl ?_
                                        refine g_iconst (v := 2) C dL_law_702 (by decide) ?_
                                        refine g_iadd C dL_law_703 ?_
                                        obtain ⟨v350, ev350, hf⟩ := ol_e hf
                                        refine g_nm ev350 ?_
                                        obtain ⟨h351, hf⟩ := og_e hf
                                        refine g_sld C hX hbl hbA h351 dL_law_704 ?_
                                        obtain ⟨v352, ev352, hf⟩ := ol_e hf
                                        refine g_nm ev352 ?_
                                        obtain ⟨r353, σ354, h355, hf⟩ := obp_e hf
                                        refine g_callVi (As := [.int v349, .int v352]) (rest := []) C (a_0 ad cy _) rfl (c_X10_gets l dC dI ad cy v349 v352) h355 hM_L_85 cal_X10_gets ⟨Nat.le_of_ble_eq_true rfl, Nat.le_of_ble_eq_true rfl⟩ ⟨rfl, rfl⟩ ⟨Nat.le_of_ble_eq_true rfl, Nat.le_of_ble_eq_true rfl⟩ rfl rfl (Nat.le_of_ble_eq_true rfl) dL_law_705 ?_
                                        refine g_aload_n C dL_law_708 rfl 2 rfl ?_
                                        refine g_aload_n C dL_law_709 rfl 0 rfl ?_
                                        refine g_iload_n C dL_law_710 rfl 3 rfl ?_
                                        refine g_iconst (v := 1) C dL_law_711 (by decide) ?_
                                        refine g_iadd C dL_law_712 ?_
                                        obtain ⟨v356, ev356, hf⟩ := ol_e hf
                                        refine g_nm ev356 ?_
                                        obtain ⟨h357, hf⟩ := og_e hf
                                        refine g_sld C hX hbl hbA h357 dL_law_713 ?_
                                        obtain ⟨v358, ev358, hf⟩ := ol_e hf
                                        refine g_nm ev358 ?_
                                        refine g_aload_n C dL_law_714 rfl 0 rfl ?_
                                        refine g_iload_n C dL_law_715 rfl 3 rfl ?_
                                        refine g_iconst (v := 2) C dL_law_716 (by decide) ?_
                                        refine g_iadd C dL_law_717 ?_
                                        obtain ⟨v359, ev359, hf⟩ := ol_e hf
                                        refine g_nm ev359 ?_
                                        obtain ⟨h360, hf⟩ := og_e hf
                                        refine g_sld C hX hbl hbA h360 dL_law_718 ?_
                                        obtain ⟨v361, ev361, hf⟩ := ol_e hf
                                        refine g_nm ev361 ?_
                                        obtain ⟨r362, σ363, h364, hf⟩ := obp_e hf
                                        refine g_callVi (As := [.int v358, .int v361]) (rest := [.int r353]) C (a_98 ad cy _) rfl (c_X11_gets l dC dI ad cy v358 v361) h364 hM_L_88 cal_X11_gets ⟨Nat.le_of_ble_eq_true rfl, Nat.le_of_ble_eq_true rfl⟩ ⟨rfl, rfl⟩ ⟨Nat.le_of_ble_eq_true rfl, Nat.le_of_ble_eq_true rfl⟩ rfl rfl (Nat.le_of_ble_eq_true rfl) dL_law_719 ?_
                                        rcases oi_e hf with ⟨c365, hf⟩ | ⟨c365, hf⟩
                                        · refine g_icmp_eq_t (tgt := 1363) C dL_law_722 (by decide) c365 ?_
                                          obtain ⟨v366, ev366, hf⟩ := ol_e hf
                                          refine g_iinc (j := 3) (w := 5) (lv2 := [(0, .ref b), (1, .ref (ad 0)), (2, .ref (ad 98)), (3, .int v366)]) C dL_law_1363 rfl (by decide) ev366 (by decide) [1, 2, 3, 0] rfl ?_
                                          refine g_goto (tgt := 18) C dL_law_1366 (by decide) ?_
                                          exact g_sub [0, 1, 2, 3] rfl (hs_18 σ363 v366 hf)
                                        · refine g_icmp_eq_f (tgt := 1363) C dL_law_722 (by decide) c365 ?_
                                          refine g_iconst (v := 0) C dL_law_725 (by decide) ?_
                                          exact absurd (os_e hf).1 (by decide)
                                      · skip
                                        rcases oi_e hf with ⟨c367, hf⟩ | ⟨c367, hf⟩
                                        · refine g_tin (tgt := 727) C dL_law_32 (by rw [c367]; decide) (by rw [c367]; decide) (by rw [c367]; rfl) (by decide) ?_
                                          refine g_aload_n C dL_law_727 rfl 1 rfl ?_
                                          refine g_aload_n C dL_law_728 rfl 0 rfl ?_
                                          refine g_iload_n C dL_law_729 rfl 3 rfl ?_
                                          refine g_iconst (v := 1) C dL_law_730 (by decide) ?_
                                          refine g_iadd C dL_law_731 ?_
                                          obtain ⟨v368, ev368, hf⟩ := ol_e hf
                                          refine g_nm ev368 ?_
                                          obtain ⟨h369, hf⟩ := og_e hf
                                          refine g_sld C hX hbl hbA h369 dL_law_732 ?_
                                          obtain ⟨v370, ev370, hf⟩ := ol_e hf
                                          refine g_nm ev370 ?_
                                          obtain ⟨r371, σ372, h373, hf⟩ := obp_e hf
                                          refine g_callVi (As := [.int v370]) (rest := []) C (a_0 ad cy _) rfl (c_X10_wage l dC dI ad cy v370) h373 hM_L_89 cal_X10_wage ⟨Nat.le_of_ble_eq_true rfl, Nat.le_of_ble_eq_true rfl⟩ ⟨rfl, rfl⟩ ⟨Nat.le_of_ble_eq_true rfl, Nat.le_of_ble_eq_true rfl⟩ rfl rfl (Nat.le_of_ble_eq_true rfl) dL_law_733 ?_
                                          refine g_aload_n C dL_law_736 rfl 2 rfl ?_
                                          refine g_aload_n C dL_law_737 rfl 0 rfl ?_
                                          refine g_iload_n C dL_law_738 rfl 3 rfl ?_
                                          refine g_iconst (v := 1) C dL_law_739 (by decide) ?_
                                          refine g_iadd C dL_law_740 ?_
                                          obtain ⟨v374, ev374, hf⟩ := ol_e hf
                                          refine g_nm ev374 ?_
                                          obtain ⟨h375, hf⟩ := og_e hf
                                          refine g_sld C hX hbl hbA h375 dL_law_741 ?_
                                          obtain ⟨v376, ev376, hf⟩ := ol_e hf
                                          refine g_nm ev376 ?_
                                          obtain ⟨r377, σ378, h379, hf⟩ := obp_e hf
                                          refine g_callVi (As := [.int v376]) (rest := [.int r371]) C (a_98 ad cy _) rfl (c_X11_wage l dC dI ad cy v376) h379 hM_L_92 cal_X11_wage ⟨Nat.le_of_ble_eq_true rfl, Nat.le_of_ble_eq_true rfl⟩ ⟨rfl, rfl⟩ ⟨Nat.le_of_ble_eq_true rfl, Nat.le_of_ble_eq_true rfl⟩ rfl rfl (Nat.le_of_ble_eq_true rfl) dL_law_742 ?_
                                          rcases oi_e hf with ⟨c380, hf⟩ | ⟨c380, hf⟩
                                          · refine g_icmp_eq_t (tgt := 1363) C dL_law_745 (by decide) c380 ?_
                                            obtain ⟨v381, ev381, hf⟩ := ol_e hf
                                            refine g_iinc (j := 3) (w := 5) (lv2 := [(0, .ref b), (1, .ref (ad 0)), (2, .ref (ad 98)), (3, .int v381)]) C dL_law_1363 rfl (by decide) ev381 (by decide) [1, 2, 3, 0] rfl ?_
                                            refine g_goto (tgt := 18) C dL_law_1366 (by decide) ?_
                                            exact g_sub [0, 1, 2, 3] rfl (hs_18 σ378 v381 hf)
                                          · refine g_icmp_eq_f (tgt := 1363) C dL_law_745 (by decide) c380 ?_
                                            refine g_iconst (v := 0) C dL_law_748 (by decide) ?_
                                            exact absurd (os_e hf).1 (by decide)
                                        · skip
                                          rcases oi_e hf with ⟨c382, hf⟩ | ⟨c382, hf⟩
                                          · refine g_tin (tgt := 750) C dL_law_32 (by rw [c382]; decide) (by rw [c382]; decide) (by rw [c382]; rfl) (by decide) ?_
                                            refine g_aload_n C dL_law_750 rfl 1 rfl ?_
                                            refine g_aload_n C dL_law_751 rfl 0 rfl ?_
                                            refine g_iload_n C dL_law_752 rfl 3 rfl ?_
                                            refine g_iconst (v := 1) C dL_law_753 (by decide) ?_
                                            refine g_iadd C dL_law_754 ?_
                                            obtain ⟨v383, ev383, hf⟩ := ol_e hf
                                            refine g_nm ev383 ?_
                                            obtain ⟨h384, hf⟩ := og_e hf
                                            refine g_sld C hX hbl hbA h384 dL_law_755 ?_
                                            obtain ⟨v385, ev385, hf⟩ := ol_e hf
                                            refine g_nm ev385 ?_
                                            refine g_aload_n C dL_law_756 rfl 0 rfl ?_
                                            refine g_iload_n C dL_law_757 rfl 3 rfl ?_
                                            refine g_iconst (v := 2) C dL_law_758 (by decide) ?_
                                            refine g_iadd C dL_law_759 ?_
                                            obtain ⟨v386, ev386, hf⟩ := ol_e hf
                                            refine g_nm ev386 ?_
                                            obtain ⟨h387, hf⟩ := og_e hf
                                            refine g_sld C hX hbl hbA h387 dL_law_760 ?_
                                            obtain ⟨v388, ev388, hf⟩ := ol_e hf
                                            refine g_nm ev388 ?_
                                            obtain ⟨r389, σ390, h391, hf⟩ := obp_e hf
                                            refine g_callVi (As := [.int v385, .int v388]) (rest := []) C (a_0 ad cy _) rfl (c_X10_ask l dC dI ad cy v385 v388) h391 hM_L_93 cal_X10_ask ⟨Nat.le_of_ble_eq_true rfl, Nat.le_of_ble_eq_true rfl⟩ ⟨rfl, rfl⟩ ⟨Nat.le_of_ble_eq_true rfl, Nat.le_of_ble_eq_true rfl⟩ rfl rfl (Nat.le_of_ble_eq_true rfl) dL_law_761 ?_
                                            refine g_aload_n C dL_law_764 rfl 2 rfl ?_
                                            refine g_aload_n C dL_law_765 rfl 0 rfl ?_
                                            refine g_iload_n C dL_law_766 rfl 3 rfl ?_
                                            refine g_iconst (v := 1) C dL_law_767 (by decide) ?_
                                            refine g_iadd C dL_law_768 ?_
                                            obtain ⟨v392, ev392, hf⟩ := ol_e hf
                                            refine g_nm ev392 ?_
                                            obtain ⟨h393, hf⟩ := og_e hf
                                            refine g_sld C hX hbl hbA h393 dL_law_769 ?_
                                            obtain ⟨v394, ev394, hf⟩ := ol_e hf
                                            refine g_nm ev394 ?_
                                            refine g_aload_n C dL_law_770 rfl 0 rfl ?_
                                            refine g_iload_n C dL_law_771 rfl 3 rfl ?_
                                            refine g_iconst (v := 2) C dL_law_772 (by decide) ?_
                                            refine g_iadd C dL_law_773 ?_
                                            obtain ⟨v395, ev395, hf⟩ := ol_e hf
                                            refine g_nm ev395 ?_
                                            obtain ⟨h396, hf⟩ := og_e hf
                                            refine g_sld C hX hbl hbA h396 dL_law_774 ?_
                                            obtain ⟨v397, ev397, hf⟩ := ol_e hf
                                            refine g_nm ev397 ?_
                                            obtain ⟨r398, σ399, h400, hf⟩ := obp_e hf
                                            refine g_callVi (As := [.int v394, .int v397]) (rest := [.int r389]) C (a_98 ad cy _) rfl (c_X11_ask l dC dI ad cy v394 v397) h400 hM_L_96 cal_X11_ask ⟨Nat.le_of_ble_eq_true rfl, Nat.le_of_ble_eq_true rfl⟩ ⟨rfl, rfl⟩ ⟨Nat.le_of_ble_eq_true rfl, Nat.le_of_ble_eq_true rfl⟩ rfl rfl (Nat.le_of_ble_eq_true rfl) dL_law_775 ?_
                                            rcases oi_e hf with ⟨c401, hf⟩ | ⟨c401, hf⟩
                                            · refine g_icmp_eq_t (tgt := 1363) C dL_law_778 (by decide) c401 ?_
                                              obtain ⟨v402, ev402, hf⟩ := ol_e hf
                                              refine g_iinc (j := 3) (w := 5) (lv2 := [(0, .ref b), (1, .ref (ad 0)), (2, .ref (ad 98)), (3, .int v402)]) C dL_law_1363 rfl (by decide) ev402 (by decide) [1, 2, 3, 0] rfl ?_
                                              refine g_goto (tgt := 18) C dL_law_1366 (by decide) ?_
                                              exact g_sub [0, 1, 2, 3] rfl (hs_18 σ399 v402 hf)
                                            · refine g_icmp_eq_f (tgt := 1363) C dL_law_778 (by decide) c401 ?_
                                              refine g_iconst (v := 0) C dL_law_781 (by decide) ?_
                                              exact absurd (os_e hf).1 (by decide)
                                          · skip
                                            rcases oi_e hf with ⟨c403, hf⟩ | ⟨c403, hf⟩
                                            · refine g_tin (tgt := 783) C dL_law_32 (by rw [c403]; decide) (by rw [c403]; decide) (by rw [c403]; rfl) (by decide) ?_
                                              refine g_aload_n C dL_law_783 rfl 1 rfl ?_
                                              refine g_aload_n C dL_law_784 rfl 0 rfl ?_
                                              refine g_iload_n C dL_law_785 rfl 3 rfl ?_
                                              refine g_iconst (v := 1) C dL_law_786 (by decide) ?_
                                              refine g_iadd C dL_law_787 ?_
                                              obtain ⟨v404, ev404, hf⟩ := ol_e hf
                                              refine g_nm ev404 ?_
                                              obtain ⟨h405, hf⟩ := og_e hf
                                              refine g_sld C hX hbl hbA h405 dL_law_788 ?_
                                              obtain ⟨v406, ev406, hf⟩ := ol_e hf
                                              refine g_nm ev406 ?_
                                              refine g_aload_n C dL_law_789 rfl 0 rfl ?_
                                              refine g_iload_n C dL_law_790 rfl 3 rfl ?_
                                              refine g_iconst (v := 2) C dL_law_791 (by decide) ?_
                                              refine g_iadd C dL_law_792 ?_
                                              obtain ⟨v407, ev407, hf⟩ := ol_e hf
                                              refine g_nm ev407 ?_
                                              obtain ⟨h408, hf⟩ := og_e hf
                                              refine g_sld C hX hbl hbA h408 dL_law_793 ?_
                                              obtain ⟨v409, ev409, hf⟩ := ol_e hf
                                              refine g_nm ev409 ?_
                                              obtain ⟨r410, σ411, h412, hf⟩ := obp_e hf
                                              refine g_callVi (As := [.int v406, .int v409]) (rest := []) C (a_0 ad cy _) rfl (c_X10_best l dC dI ad cy v406 v409) h412 hM_L_97 cal_X10_best ⟨Nat.le_of_ble_eq_true rfl, Nat.le_of_ble_eq_true rfl⟩ ⟨rfl, rfl⟩ ⟨Nat.le_of_ble_eq_true rfl, Nat.le_of_ble_eq_true rfl⟩ rfl rfl (Nat.le_of_ble_eq_true rfl) dL_law_794 ?_
                                              refine g_aload_n C dL_law_797 rfl 2 rfl ?_
                                              refine g_aload_n C dL_law_798 rfl 0 rfl ?_
                                              refine g_iload_n C dL_law_799 rfl 3 rfl ?_
                                              refine g_iconst (v := 1) C dL_law_800 (by decide) ?_
                                              refine g_iadd C dL_law_801 ?_
                                              obtain ⟨v413, ev413, hf⟩ := ol_e hf
                                              refine g_nm ev413 ?_
                                              obtain ⟨h414, hf⟩ := og_e hf
                                              refine g_sld C hX hbl hbA h414 dL_law_802 ?_
                                              obtain ⟨v415, ev415, hf⟩ := ol_e hf
                                              refine g_nm ev415 ?_
                                              refine g_aload_n C dL_law_803 rfl 0 rfl ?_
                                              refine g_iload_n C dL_law_804 rfl 3 rfl ?_
                                              refine g_iconst (v := 2) C dL_law_805 (by decide) ?_
                                              refine g_iadd C dL_law_806 ?_
                                              obtain ⟨v416, ev416, hf⟩ := ol_e hf
                                              refine g_nm ev416 ?_
                                              obtain ⟨h417, hf⟩ := og_e hf
                                              refine g_sld C hX hbl hbA h417 dL_law_807 ?_
                                              obtain ⟨v418, ev418, hf⟩ := ol_e hf
                                              refine g_nm ev418 ?_
                                              obtain ⟨r419, σ420, h421, hf⟩ := obp_e hf
                                              refine g_callVi (As := [.int v415, .int v418]) (rest := [.int r410]) C (a_98 ad cy _) rfl (c_X11_best l dC dI ad cy v415 v418) h421 hM_L_100 cal_X11_best ⟨Nat.le_of_ble_eq_true rfl, Nat.le_of_ble_eq_true rfl⟩ ⟨rfl, rfl⟩ ⟨Nat.le_of_ble_eq_true rfl, Nat.le_of_ble_eq_true rfl⟩ rfl rfl (Nat.le_of_ble_eq_true rfl) dL_law_808 ?_
                                              rcases oi_e hf with ⟨c422, hf⟩ | ⟨c422, hf⟩
                                              · refine g_icmp_eq_t (tgt := 1363) C dL_law_811 (by decide) c422 ?_
                                                obtain ⟨v423, ev423, hf⟩ := ol_e hf
                                                refine g_iinc (j := 3) (w := 5) (lv2 := [(0, .ref b), (1, .ref (ad 0)), (2, .ref (ad 98)), (3, .int v423)]) C dL_law_1363 rfl (by decide) ev423 (by decide) [1, 2, 3, 0] rfl ?_
                                                refine g_goto (tgt := 18) C dL_law_1366 (by decide) ?_
                                                exact g_sub [0, 1, 2, 3] rfl (hs_18 σ420 v423 hf)
                                              · refine g_icmp_eq_f (tgt := 1363) C dL_law_811 (by decide) c422 ?_
                                                refine g_iconst (v := 0) C dL_law_814 (by decide) ?_
                                                exact absurd (os_e hf).1 (by decide)
                                            · skip
                                              rcases oi_e hf with ⟨c424, hf⟩ | ⟨c424, hf⟩
                                              · refine g_tin (tgt := 816) C dL_law_32 (by rw [c424]; decide) (by rw [c424]; decide) (by rw [c424]; rfl) (by decide) ?_
                                                refine g_aload_n C dL_law_816 rfl 1 rfl ?_
                                                refine g_aload_n C dL_law_817 rfl 0 rfl ?_
                                                refine g_iload_n C dL_law_818 rfl 3 rfl ?_
                                                refine g_iconst (v := 1) C dL_law_819 (by decide) ?_
                                                refine g_iadd C dL_law_820 ?_
                                                obtain ⟨v425, ev425, hf⟩ := ol_e hf
                                                refine g_nm ev425 ?_
                                                obtain ⟨h426, hf⟩ := og_e hf
                                                refine g_sld C hX hbl hbA h426 dL_law_821 ?_
                                                obtain ⟨v427, ev427, hf⟩ := ol_e hf
                                                refine g_nm ev427 ?_
                                                obtain ⟨r428, σ429, h430, hf⟩ := obp_e hf
                                                refine g_callVi (As := [.int v427]) (rest := []) C (a_0 ad cy _) rfl (c_X10_settle l dC dI ad cy v427) h430 hM_L_101 cal_X10_settle ⟨Nat.le_of_ble_eq_true rfl, Nat.le_of_ble_eq_true rfl⟩ ⟨rfl, rfl⟩ ⟨Nat.le_of_ble_eq_true rfl, Nat.le_of_ble_eq_true rfl⟩ rfl rfl (Nat.le_of_ble_eq_true rfl) dL_law_822 ?_
                                                refine g_aload_n C dL_law_825 rfl 2 rfl ?_
                                                refine g_aload_n C dL_law_826 rfl 0 rfl ?_
                                                refine g_iload_n C dL_law_827 rfl 3 rfl ?_
                                                refine g_iconst (v := 1) C dL_law_828 (by decide) ?_
                                                refine g_iadd C dL_law_829 ?_
                                                obtain ⟨v431, ev431, hf⟩ := ol_e hf
                                                refine g_nm ev431 ?_
                                                obtain ⟨h432, hf⟩ := og_e hf
                                                refine g_sld C hX hbl hbA h432 dL_law_830 ?_
                                                obtain ⟨v433, ev433, hf⟩ := ol_e hf
                                                refine g_nm ev433 ?_
                                                obtain ⟨r434, σ435, h436, hf⟩ := obp_e hf
                                                refine g_callVi (As := [.int v433]) (rest := [.int r428]) C (a_98 ad cy _) rfl (c_X11_settle l dC dI ad cy v433) h436 hM_L_104 cal_X11_settle ⟨Nat.le_of_ble_eq_true rfl, Nat.le_of_ble_eq_true rfl⟩ ⟨rfl, rfl⟩ ⟨Nat.le_of_ble_eq_true rfl, Nat.le_of_ble_eq_true rfl⟩ rfl rfl (Nat.le_of_ble_eq_true rfl) dL_law_831 ?_
                                                rcases oi_e hf with ⟨c437, hf⟩ | ⟨c437, hf⟩
                                                · refine g_icmp_eq_t (tgt := 1363) C dL_law_834 (by decide) c437 ?_
                                                  obtain ⟨v438, ev438, hf⟩ := ol_e hf
                                                  refine g_iinc (j := 3) (w := 5) (lv2 := [(0, .ref b), (1, .ref (ad 0)), (2, .ref (ad 98)), (3, .int v438)]) C dL_law_1363 rfl (by decide) ev438 (by decide) [1, 2, 3, 0] rfl ?_
                                                  refine g_goto (tgt := 18) C dL_law_1366 (by decide) ?_
                                                  exact g_sub [0, 1, 2, 3] rfl (hs_18 σ435 v438 hf)
                                                · refine g_icmp_eq_f (tgt := 1363) C dL_law_834 (by decide) c437 ?_
                                                  refine g_iconst (v := 0) C dL_law_837 (by decide) ?_
                                                  exact absurd (os_e hf).1 (by decide)
                                              · skip
                                                rcases oi_e hf with ⟨c439, hf⟩ | ⟨c439, hf⟩
                                                · refine g_tin (tgt := 839) C dL_law_32 (by rw [c439]; decide) (by rw [c439]; decide) (by rw [c439]; rfl) (by decide) ?_
                                                  refine g_aload_n C dL_law_839 rfl 1 rfl ?_
                                                  obtain ⟨r440, σ441, h442, hf⟩ := obp_e hf
                                                  refine g_callVi (As := []) (rest := []) C (a_0 ad cy _) rfl (c_X10_settled l dC dI ad cy ) h442 hM_L_105 cal_X10_settled ⟨Nat.le_of_ble_eq_true rfl, Nat.le_of_ble_eq_true rfl⟩ ⟨rfl, rfl⟩ ⟨Nat.le_of_ble_eq_true rfl, Nat.le_of_ble_eq_true rfl⟩ rfl rfl (Nat.le_of_ble_eq_true rfl) dL_law_840 ?_
                                                  refine g_aload_n C dL_law_843 rfl 2 rfl ?_
                                                  obtain ⟨r443, σ444, h445, hf⟩ := obp_e hf
                                                  refine g_callVi (As := []) (rest := [.int r440]) C (a_98 ad cy _) rfl (c_X11_settled l dC dI ad cy ) h445 hM_L_108 cal_X11_settled ⟨Nat.le_of_ble_eq_true rfl, Nat.le_of_ble_eq_true rfl⟩ ⟨rfl, rfl⟩ ⟨Nat.le_of_ble_eq_true rfl, Nat.le_of_ble_eq_true rfl⟩ rfl rfl (Nat.le_of_ble_eq_true rfl) dL_law_844 ?_
                                                  rcases oi_e hf with ⟨c446, hf⟩ | ⟨c446, hf⟩
                                                  · refine g_icmp_eq_t (tgt := 1363) C dL_law_847 (by decide) c446 ?_
                                                    obtain ⟨v447, ev447, hf⟩ := ol_e hf
                                                    refine g_iinc (j := 3) (w := 5) (lv2 := [(0, .ref b), (1, .ref (ad 0)), (2, .ref (ad 98)), (3, .int v447)]) C dL_law_1363 rfl (by decide) ev447 (by decide) [1, 2, 3, 0] rfl ?_
                                                    refine g_goto (tgt := 18) C dL_law_1366 (by decide) ?_
                                                    exact g_sub [0, 1, 2, 3] rfl (hs_18 σ444 v447 hf)
                                                  · refine g_icmp_eq_f (tgt := 1363) C dL_law_847 (by decide) c446 ?_
                                                    refine g_iconst (v := 0) C dL_law_850 (by decide) ?_
                                                    exact absurd (os_e hf).1 (by decide)
                                                · skip
                                                  rcases oi_e hf with ⟨c448, hf⟩ | ⟨c448, hf⟩
                                                  · refine g_tin (tgt := 852) C dL_law_32 (by rw [c448]; decide) (by rw [c448]; decide) (by rw [c448]; rfl) (by decide) ?_
                                                    refine g_aload_n C dL_law_852 rfl 1 rfl ?_
                                                    refine g_aload_n C dL_law_853 rfl 0 rfl ?_
                                                    refine g_iload_n C dL_law_854 rfl 3 rfl ?_
                                                    refine g_iconst (v := 1) C dL_law_855 (by decide) ?_
                                                    refine g_iadd C dL_law_856 ?_
                                                    obtain ⟨v449, ev449, hf⟩ := ol_e hf
                                                    refine g_nm ev449 ?_
                                                    obtain ⟨h450, hf⟩ := og_e hf
                                                    refine g_sld C hX hbl hbA h450 dL_law_857 ?_
                                                    obtain ⟨v451, ev451, hf⟩ := ol_e hf
                                                    refine g_nm ev451 ?_
                                                    refine g_aload_n C dL_law_858 rfl 0 rfl ?_
                                                    refine g_iload_n C dL_law_859 rfl 3 rfl ?_
                                                    refine g_iconst (v := 2) C dL_law_860 (by decide) ?_
                                                    refine g_iadd C dL_law_861 ?_
                                                    obtain ⟨v452, ev452, hf⟩ := ol_e hf
                                                    refine g_nm ev452 ?_
                                                    obtain ⟨h453, hf⟩ := og_e hf
                                                    refine g_sld C hX hbl hbA h453 dL_law_862 ?_
                                                    obtain ⟨v454, ev454, hf⟩ := ol_e hf
                                                    refine g_nm ev454 ?_
                                                    obtain ⟨r455, σ456, h457, hf⟩ := obp_e hf
                                                    refine g_callVi (As := [.int v451, .int v454]) (rest := []) C (a_0 ad cy _) rfl (c_X10_feast l dC dI ad cy v451 v454) h457 hM_L_109 cal_X10_feast ⟨Nat.le_of_ble_eq_true rfl, Nat.le_of_ble_eq_true rfl⟩ ⟨rfl, rfl⟩ ⟨Nat.le_of_ble_eq_true rfl, Nat.le_of_ble_eq_true rfl⟩ rfl rfl (Nat.le_of_ble_eq_true rfl) dL_law_863 ?_
                                                    refine g_aload_n C dL_law_866 rfl 2 rfl ?_
                                                    refine g_aload_n C dL_law_867 rfl 0 rfl ?_
                                                    refine g_iload_n C dL_law_868 rfl 3 rfl ?_
                                                    refine g_iconst (v := 1) C dL_law_869 (by decide) ?_
                                                    refine g_iadd C dL_law_870 ?_
                                                    obtain ⟨v458, ev458, hf⟩ := ol_e hf
                                                    refine g_nm ev458 ?_
                                                    obtain ⟨h459, hf⟩ := og_e hf
                                                    refine g_sld C hX hbl hbA h459 dL_law_871 ?_
                                                    obtain ⟨v460, ev460, hf⟩ := ol_e hf
                                                    refine g_nm ev460 ?_
                                                    refine g_aload_n C dL_law_872 rfl 0 rfl ?_
                                                    refine g_iload_n C dL_law_873 rfl 3 rfl ?_
                                                    refine g_iconst (v := 2) C dL_law_874 (by decide) ?_
                                                    refine g_iadd C dL_law_875 ?_
                                                    obtain ⟨v461, ev461, hf⟩ := ol_e hf
                                                    refine g_nm ev461 ?_
                                                    obtain ⟨h462, hf⟩ := og_e hf
                                                    refine g_sld C hX hbl hbA h462 dL_law_876 ?_
                                                    obtain ⟨v463, ev463, hf⟩ := ol_e hf
                                                    refine g_nm ev463 ?_
                                                    obtain ⟨r464, σ465, h466, hf⟩ := obp_e hf
                                                    refine g_callVi (As := [.int v460, .int v463]) (rest := [.int r455]) C (a_98 ad cy _) rfl (c_X11_feast l dC dI ad cy v460 v463) h466 hM_L_112 cal_X11_feast ⟨Nat.le_of_ble_eq_true rfl, Nat.le_of_ble_eq_true rfl⟩ ⟨rfl, rfl⟩ ⟨Nat.le_of_ble_eq_true rfl, Nat.le_of_ble_eq_true rfl⟩ rfl rfl (Nat.le_of_ble_eq_true rfl) dL_law_877 ?_
                                                    rcases oi_e hf with ⟨c467, hf⟩ | ⟨c467, hf⟩
                                                    · refine g_icmp_eq_t (tgt := 1363) C dL_law_880 (by decide) c467 ?_
                                                      obtain ⟨v468, ev468, hf⟩ := ol_e hf
                                                      refine g_iinc (j := 3) (w := 5) (lv2 := [(0, .ref b), (1, .ref (ad 0)), (2, .ref (ad 98)), (3, .int v468)]) C dL_law_1363 rfl (by decide) ev468 (by decide) [1, 2, 3, 0] rfl ?_
                                                      refine g_goto (tgt := 18) C dL_law_1366 (by decide) ?_
                                                      exact g_sub [0, 1, 2, 3] rfl (hs_18 σ465 v468 hf)
                                                    · refine g_icmp_eq_f (tgt := 1363) C dL_law_880 (by decide) c467 ?_
                                                      refine g_iconst (v := 0) C dL_law_883 (by decide) ?_
                                                      exact absurd (os_e hf).1 (by decide)
                                                  · skip
                                                    rcases oi_e hf with ⟨c469, hf⟩ | ⟨c469, hf⟩
                                                    · refine g_tin (tgt := 885) C dL_law_32 (by rw [c469]; decide) (by rw [c469]; decide) (by rw [c469]; rfl) (by decide) ?_
                                                      refine g_aload_n C dL_law_885 rfl 1 rfl ?_
                                                      refine g_aload_n C dL_law_886 rfl 0 rfl ?_
                                                      refine g_iload_n C dL_law_887 rfl 3 rfl ?_
                                                      refine g_iconst (v := 1) C dL_law_888 (by decide) ?_
                                                      refine g_iadd C dL_law_889 ?_
                                                      obtain ⟨v470, ev470, hf⟩ := ol_e hf
                                                      refine g_nm ev470 ?_
                                                      obtain ⟨h471, hf⟩ := og_e hf
                                                      refine g_sld C hX hbl hbA h471 dL_law_890 ?_
                                                      obtain ⟨v472, ev472, hf⟩ := ol_e hf
                                                      refine g_nm ev472 ?_
                                                      refine g_aload_n C dL_law_891 rfl 0 rfl ?_
                                                      refine g_iload_n C dL_law_892 rfl 3 rfl ?_
                                                      refine g_iconst (v := 2) C dL_law_893 (by decide) ?_
                                                      refine g_iadd C dL_law_894 ?_
                                                      obtain ⟨v473, ev473, hf⟩ := ol_e hf
                                                      refine g_nm ev473 ?_
                                                      obtain ⟨h474, hf⟩ := og_e hf
                                                      refine g_sld C hX hbl hbA h474 dL_law_895 ?_
                                                      obtain ⟨v475, ev475, hf⟩ := ol_e hf
                                                      refine g_nm ev475 ?_
                                                      refine g_aload_n C dL_law_896 rfl 0 rfl ?_
                                                      refine g_iload_n C dL_law_897 rfl 3 rfl ?_
                                                      refine g_iconst (v := 3) C dL_law_898 (by decide) ?_
                                                      refine g_iadd C dL_law_899 ?_
                                                      obtain ⟨v476, ev476, hf⟩ := ol_e hf
                                                      refine g_nm ev476 ?_
                                                      obtain ⟨h477, hf⟩ := og_e hf
                                                      refine g_sld C hX hbl hbA h477 dL_law_900 ?_
                                                      obtain ⟨v478, ev478, hf⟩ := ol_e hf
                                                      refine g_nm ev478 ?_
                                                      obtain ⟨r479, σ480, h481, hf⟩ := obp_e hf
                                                      refine g_callVi (As := [.int v472, .int v475, .int v478]) (rest := []) C (a_0 ad cy _) rfl (c_X10_fair l dC dI ad cy v472 v475 v478) h481 hM_L_113 cal_X10_fair ⟨Nat.le_of_ble_eq_true rfl, Nat.le_of_ble_eq_true rfl⟩ ⟨rfl, rfl⟩ ⟨Nat.le_of_ble_eq_true rfl, Nat.le_of_ble_eq_true rfl⟩ rfl rfl (Nat.le_of_ble_eq_true rfl) dL_law_901 ?_
                                                      refine g_aload_n C dL_law_904 rfl 2 rfl ?_
                                                      refine g_aload_n C dL_law_905 rfl 0 rfl ?_
                                                      refine g_iload_n C dL_law_906 rfl 3 rfl ?_
                                                      refine g_iconst (v := 1) C dL_law_907 (by decide) ?_
                                                      refine g_iadd C dL_law_908 ?_
                                                      obtain ⟨v482, ev482, hf⟩ := ol_e hf
                                                      refine g_nm ev482 ?_
                                                      obtain ⟨h483, hf⟩ := og_e hf
                                                      refine g_sld C hX hbl hbA h483 dL_law_909 ?_
                                                      obtain ⟨v484, ev484, hf⟩ := ol_e hf
                                                      refine g_nm ev484 ?_
                                                      refine g_aload_n C dL_law_910 rfl 0 rfl ?_
                                                      refine g_iload_n C dL_law_911 rfl 3 rfl ?_
                                                      refine g_iconst (v := 2) C dL_law_912 (by decide) ?_
                                                      refine g_iadd C dL_law_913 ?_
                                                      obtain ⟨v485, ev485, hf⟩ := ol_e hf
                                                      refine g_nm ev485 ?_
                                                      obtain ⟨h486, hf⟩ := og_e hf
                                                      refine g_sld C hX hbl hbA h486 dL_law_914 ?_
                                                      obtain ⟨v487, ev487, hf⟩ := ol_e hf
                                                      refine g_nm ev487 ?_
                                                      refine g_aload_n C dL_law_915 rfl 0 rfl ?_
                                                      refine g_iload_n C dL_law_916 rfl 3 rfl ?_
                                                      refine g_iconst (v := 3) C dL_law_917 (by decide) ?_
                                                      refine g_iadd C dL_law_918 ?_
                                                      obtain ⟨v488, ev488, hf⟩ := ol_e hf
                                                      refine g_nm ev488 ?_
                                                      obtain ⟨h489, hf⟩ := og_e hf
                                                      refine g_sld C hX hbl hbA h489 dL_law_919 ?_
                                                      obtain ⟨v490, ev490, hf⟩ := ol_e hf
                                                      refine g_nm ev490 ?_
                                                      obtain ⟨r491, σ492, h493, hf⟩ := obp_e hf
                                                      refine g_callVi (As := [.int v484, .int v487, .int v490]) (rest := [.int r479]) C (a_98 ad cy _) rfl (c_X11_fair l dC dI ad cy v484 v487 v490) h493 hM_L_117 cal_X11_fair ⟨Nat.le_of_ble_eq_true rfl, Nat.le_of_ble_eq_true rfl⟩ ⟨rfl, rfl⟩ ⟨Nat.le_of_ble_eq_true rfl, Nat.le_of_ble_eq_true rfl⟩ rfl rfl (Nat.le_of_ble_eq_true rfl) dL_law_920 ?_
                                                      rcases oi_e hf with ⟨c494, hf⟩ | ⟨c494, hf⟩
                                                      · refine g_icmp_eq_t (tgt := 1363) C dL_law_923 (by decide) c494 ?_
                                                        obtain ⟨v495, ev495, hf⟩ := ol_e hf
                                                        refine g_iinc (j := 3) (w := 5) (lv2 := [(0, .ref b), (1, .ref (ad 0)), (2, .ref (ad 98)), (3, .int v495)]) C dL_law_1363 rfl (by decide) ev495 (by decide) [1, 2, 3, 0] rfl ?_
                                                        refine g_goto (tgt := 18) C dL_law_1366 (by decide) ?_
                                                        exact g_sub [0, 1, 2, 3] rfl (hs_18 σ492 v495 hf)
                                                      · refine g_icmp_eq_f (tgt := 1363) C dL_law_923 (by decide) c494 ?_
                                                        refine g_iconst (v := 0) C dL_law_926 (by decide) ?_
                                                        exact absurd (os_e hf).1 (by decide)
                                                    · skip
                                                      rcases oi_e hf with ⟨c496, hf⟩ | ⟨c496, hf⟩
                                                      · refine g_tin (tgt := 928) C dL_law_32 (by rw [c496]; decide) (by rw [c496]; decide) (by rw [c496]; rfl) (by decide) ?_
                                                        refine g_aload_n C dL_law_928 rfl 1 rfl ?_
                                                        refine g_aload_n C dL_law_929 rfl 0 rfl ?_
                                                        refine g_iload_n C dL_law_930 rfl 3 rfl ?_
                                                        refine g_iconst (v := 1) C dL_law_931 (by decide) ?_
                                                        refine g_iadd C dL_law_932 ?_
                                                        obtain ⟨v497, ev497, hf⟩ := ol_e hf
                                                        refine g_nm ev497 ?_
                                                        obtain ⟨h498, hf⟩ := og_e hf
                                                        refine g_sld C hX hbl hbA h498 dL_law_933 ?_
                                                        obtain ⟨v499, ev499, hf⟩ := ol_e hf
                                                        refine g_nm ev499 ?_
                                                        refine g_aload_n C dL_law_934 rfl 0 rfl ?_
                                                        refine g_iload_n C dL_law_935 rfl 3 rfl ?_
                                                        refine g_iconst (v := 2) C dL_law_936 (by decide) ?_
                                                        refine g_iadd C dL_law_937 ?_
                                                        obtain ⟨v500, ev500, hf⟩ := ol_e hf
                                                        refine g_nm ev500 ?_
                                                        obtain ⟨h501, hf⟩ := og_e hf
                                                        refine g_sld C hX hbl hbA h501 dL_law_938 ?_
                                                        obtain ⟨v502, ev502, hf⟩ := ol_e hf
                                                        refine g_nm ev502 ?_
                                                        refine g_aload_n C dL_law_939 rfl 0 rfl ?_
                                                        refine g_iload_n C dL_law_940 rfl 3 rfl ?_
                                                        refine g_iconst (v := 3) C dL_law_941 (by decide) ?_
                                                        refine g_iadd C dL_law_942 ?_
                                                        obtain ⟨v503, ev503, hf⟩ := ol_e hf
                                                        refine g_nm ev503 ?_
                                                        obtain ⟨h504, hf⟩ := og_e hf
                                                        refine g_sld C hX hbl hbA h504 dL_law_943 ?_
                                                        obtain ⟨v505, ev505, hf⟩ := ol_e hf
                                                        refine g_nm ev505 ?_
                                                        obtain ⟨r506, σ507, h508, hf⟩ := obp_e hf
                                                        refine g_callVi (As := [.int v499, .int v502, .int v505]) (rest := []) C (a_0 ad cy _) rfl (c_X10_nearest l dC dI ad cy v499 v502 v505) h508 hM_L_118 cal_X10_nearest ⟨Nat.le_of_ble_eq_true rfl, Nat.le_of_ble_eq_true rfl⟩ ⟨rfl, rfl⟩ ⟨Nat.le_of_ble_eq_true rfl, Nat.le_of_ble_eq_true rfl⟩ rfl rfl (Nat.le_of_ble_eq_true rfl) dL_law_944 ?_
                                                        refine g_aload_n C dL_law_947 rfl 2 rfl ?_
                                                        refine g_aload_n C dL_law_948 rfl 0 rfl ?_
                                                        refine g_iload_n C dL_law_949 rfl 3 rfl ?_
                                                        refine g_iconst (v := 1) C dL_law_950 (by decide) ?_
                                                        refine g_iadd C dL_law_951 ?_
                                                        obtain ⟨v509, ev509, hf⟩ := ol_e hf
                                                        refine g_nm ev509 ?_
                                                        obtain ⟨h510, hf⟩ := og_e hf
                                                        refine g_sld C hX hbl hbA h510 dL_law_952 ?_
                                                        obtain ⟨v511, ev511, hf⟩ := ol_e hf
                                                        refine g_nm ev511 ?_
                                                        refine g_aload_n C dL_law_953 rfl 0 rfl ?_
                                                        refine g_iload_n C dL_law_954 rfl 3 rfl ?_
                                                        refine g_iconst (v := 2) C dL_law_955 (by decide) ?_
                                                        refine g_iadd C dL_law_956 ?_
                                                        obtain ⟨v512, ev512, hf⟩ := ol_e hf
                                                        refine g_nm ev512 ?_
                                                        obtain ⟨h513, hf⟩ := og_e hf
                                                        refine g_sld C hX hbl hbA h513 dL_law_957 ?_
                                                        obtain ⟨v514, ev514, hf⟩ := ol_e hf
                                                        refine g_nm ev514 ?_
                                                        refine g_aload_n C dL_law_958 rfl 0 rfl ?_
                                                        refine g_iload_n C dL_law_959 rfl 3 rfl ?_
                                                        refine g_iconst (v := 3) C dL_law_960 (by decide) ?_
                                                        refine g_iadd C dL_law_961 ?_
                                                        obtain ⟨v515, ev515, hf⟩ := ol_e hf
                                                        refine g_nm ev515 ?_
                                                        obtain ⟨h516, hf⟩ := og_e hf
                                                        refine g_sld C hX hbl hbA h516 dL_law_962 ?_
                                                        obtain ⟨v517, ev517, hf⟩ := ol_e hf
                                                        refine g_nm ev517 ?_
                                                        obtain ⟨r518, σ519, h520, hf⟩ := obp_e hf
                                                        refine g_callVi (As := [.int v511, .int v514, .int v517]) (rest := [.int r506]) C (a_98 ad cy _) rfl (c_X11_nearest l dC dI ad cy v511 v514 v517) h520 hM_L_121 cal_X11_nearest ⟨Nat.le_of_ble_eq_true rfl, Nat.le_of_ble_eq_true rfl⟩ ⟨rfl, rfl⟩ ⟨Nat.le_of_ble_eq_true rfl, Nat.le_of_ble_eq_true rfl⟩ rfl rfl (Nat.le_of_ble_eq_true rfl) dL_law_963 ?_
                                                        rcases oi_e hf with ⟨c521, hf⟩ | ⟨c521, hf⟩
                                                        · refine g_icmp_eq_t (tgt := 1363) C dL_law_966 (by decide) c521 ?_
                                                          obtain ⟨v522, ev522, hf⟩ := ol_e hf
                                                          refine g_iinc (j := 3) (w := 5) (lv2 := [(0, .ref b), (1, .ref (ad 0)), (2, .ref (ad 98)), (3, .int v522)]) C dL_law_1363 rfl (by decide) ev522 (by decide) [1, 2, 3, 0] rfl ?_
                                                          refine g_goto (tgt := 18) C dL_law_1366 (by decide) ?_
                                                          exact g_sub [0, 1, 2, 3] rfl (hs_18 σ519 v522 hf)
                                                        · refine g_icmp_eq_f (tgt := 1363) C dL_law_966 (by decide) c521 ?_
                                                          refine g_iconst (v := 0) C dL_law_969 (by decide) ?_
                                                          exact absurd (os_e hf).1 (by decide)
                                                      · skip
                                                        rcases oi_e hf with ⟨c523, hf⟩ | ⟨c523, hf⟩
                                                        · refine g_tin (tgt := 971) C dL_law_32 (by rw [c523]; decide) (by rw [c523]; decide) (by rw [c523]; rfl) (by decide) ?_
                                                          refine g_aload_n C dL_law_971 rfl 1 rfl ?_
                                                          refine g_aload_n C dL_law_972 rfl 0 rfl ?_
                                                          refine g_iload_n C dL_law_973 rfl 3 rfl ?_
                                                          refine g_iconst (v := 1) C dL_law_974 (by decide) ?_
                                                          refine g_iadd C dL_law_975 ?_
                                                          obtain ⟨v524, ev524, hf⟩ := ol_e hf
                                                          refine g_nm ev524 ?_
                                                          obtain ⟨h525, hf⟩ := og_e hf
                                                          refine g_sld C hX hbl hbA h525 dL_law_976 ?_
                                                          obtain ⟨v526, ev526, hf⟩ := ol_e hf
                                                          refine g_nm ev526 ?_
                                                          obtain ⟨r527, σ528, h529, hf⟩ := obp_e hf
                                                          refine g_callVi (As := [.int v526]) (rest := []) C (a_0 ad cy _) rfl (c_X10_dear l dC dI ad cy v526) h529 hM_L_122 cal_X10_dear ⟨Nat.le_of_ble_eq_true rfl, Nat.le_of_ble_eq_true rfl⟩ ⟨rfl, rfl⟩ ⟨Nat.le_of_ble_eq_true rfl, Nat.le_of_ble_eq_true rfl⟩ rfl rfl (Nat.le_of_ble_eq_true rfl) dL_law_977 ?_
                                                          refine g_aload_n C dL_law_980 rfl 2 rfl ?_
                                                          refine g_aload_n C dL_law_981 rfl 0 rfl ?_
                                                          refine g_iload_n C dL_law_982 rfl 3 rfl ?_
                                                          refine g_iconst (v := 1) C dL_law_983 (by decide) ?_
                                                          refine g_iadd C dL_law_984 ?_
                                                          obtain ⟨v530, ev530, hf⟩ := ol_e hf
                                                          refine g_nm ev530 ?_
                                                          obtain ⟨h531, hf⟩ := og_e hf
                                                          refine g_sld C hX hbl hbA h531 dL_law_985 ?_
                                                          obtain ⟨v532, ev532, hf⟩ := ol_e hf
                                                          refine g_nm ev532 ?_
                                                          obtain ⟨r533, σ534, h535, hf⟩ := obp_e hf
                                                          refine g_callVi (As := [.int v532]) (rest := [.int r527]) C (a_98 ad cy _) rfl (c_X11_dear l dC dI ad cy v532) h535 hM_L_125 cal_X11_dear ⟨Nat.le_of_ble_eq_true rfl, Nat.le_of_ble_eq_true rfl⟩ ⟨rfl, rfl⟩ ⟨Nat.le_of_ble_eq_true rfl, Nat.le_of_ble_eq_true rfl⟩ rfl rfl (Nat.le_of_ble_eq_true rfl) dL_law_986 ?_
                                                          rcases oi_e hf with ⟨c536, hf⟩ | ⟨c536, hf⟩
                                                          · refine g_icmp_eq_t (tgt := 1363) C dL_law_989 (by decide) c536 ?_
                                                            obtain ⟨v537, ev537, hf⟩ := ol_e hf
                                                            refine g_iinc (j := 3) (w := 5) (lv2 := [(0, .ref b), (1, .ref (ad 0)), (2, .ref (ad 98)), (3, .int v537)]) C dL_law_1363 rfl (by decide) ev537 (by decide) [1, 2, 3, 0] rfl ?_
                                                            refine g_goto (tgt := 18) C dL_law_1366 (by decide) ?_
                                                            exact g_sub [0, 1, 2, 3] rfl (hs_18 σ534 v537 hf)
                                                          · refine g_icmp_eq_f (tgt := 1363) C dL_law_989 (by decide) c536 ?_
                                                            refine g_iconst (v := 0) C dL_law_992 (by decide) ?_
                                                            exact absurd (os_e hf).1 (by decide)
                                                        · skip
                                                          rcases oi_e hf with ⟨c538, hf⟩ | ⟨c538, hf⟩
                                                          · refine g_tin (tgt := 994) C dL_law_32 (by rw [c538]; decide) (by rw [c538]; decide) (by rw [c538]; rfl) (by decide) ?_
                                                            refine g_aload_n C dL_law_994 rfl 1 rfl ?_
                                                            refine g_aload_n C dL_law_995 rfl 0 rfl ?_
                                                            refine g_iload_n C dL_law_996 rfl 3 rfl ?_
                                                            refine g_iconst (v := 1) C dL_law_997 (by decide) ?_
                                                            refine g_iadd C dL_law_998 ?_
                                                            obtain ⟨v539, ev539, hf⟩ := ol_e hf
                                                            refine g_nm ev539 ?_
                                                            obtain ⟨h540, hf⟩ := og_e hf
                                                            refine g_sld C hX hbl hbA h540 dL_law_999 ?_
                                                            obtain ⟨v541, ev541, hf⟩ := ol_e hf
                                                            refine g_nm ev541 ?_
                                                            refine g_aload_n C dL_law_1000 rfl 0 rfl ?_
                                                            refine g_iload_n C dL_law_1001 rfl 3 rfl ?_
                                                            refine g_iconst (v := 2) C dL_law_1002 (by decide) ?_
                                                            refine g_iadd C dL_law_1003 ?_
                                                            obtain ⟨v542, ev542, hf⟩ := ol_e hf
                                                            refine g_nm ev542 ?_
                                                            obtain ⟨h543, hf⟩ := og_e hf
                                                            refine g_sld C hX hbl hbA h543 dL_law_1004 ?_
                                                            obtain ⟨v544, ev544, hf⟩ := ol_e hf
                                                            refine g_nm ev544 ?_
                                                            obtain ⟨r545, σ546, h547, hf⟩ := obp_e hf
                                                            refine g_callVi (As := [.int v541, .int v544]) (rest := []) C (a_0 ad cy _) rfl (c_X10_storm l dC dI ad cy v541 v544) h547 hM_L_126 cal_X10_storm ⟨Nat.le_of_ble_eq_true rfl, Nat.le_of_ble_eq_true rfl⟩ ⟨rfl, rfl⟩ ⟨Nat.le_of_ble_eq_true rfl, Nat.le_of_ble_eq_true rfl⟩ rfl rfl (Nat.le_of_ble_eq_true rfl) dL_law_1005 ?_
                                                            refine g_aload_n C dL_law_1008 rfl 2 rfl ?_
                                                            refine g_aload_n C dL_law_1009 rfl 0 rfl ?_
                                                            refine g_iload_n C dL_law_1010 rfl 3 rfl ?_
                                                            refine g_iconst (v := 1) C dL_law_1011 (by decide) ?_
                                                            refine g_iadd C dL_law_1012 ?_
                                                            obtain ⟨v548, ev548, hf⟩ := ol_e hf
                                                            refine g_nm ev548 ?_
                                                            obtain ⟨h549, hf⟩ := og_e hf
                                                            refine g_sld C hX hbl hbA h549 dL_law_1013 ?_
                                                            obtain ⟨v550, ev550, hf⟩ := ol_e hf
                                                            refine g_nm ev550 ?_
                                                            refine g_aload_n C dL_law_1014 rfl 0 rfl ?_
                                                            refine g_iload_n C dL_law_1015 rfl 3 rfl ?_
                                                            refine g_iconst (v := 2) C dL_law_1016 (by decide) ?_
                                                            refine g_iadd C dL_law_1017 ?_
                                                            obtain ⟨v551, ev551, hf⟩ := ol_e hf
                                                            refine g_nm ev551 ?_
                                                            obtain ⟨h552, hf⟩ := og_e hf
                                                            refine g_sld C hX hbl hbA h552 dL_law_1018 ?_
                                                            obtain ⟨v553, ev553, hf⟩ := ol_e hf
                                                            refine g_nm ev553 ?_
                                                            obtain ⟨r554, σ555, h556, hf⟩ := obp_e hf
                                                            refine g_callVi (As := [.int v550, .int v553]) (rest := [.int r545]) C (a_98 ad cy _) rfl (c_X11_storm l dC dI ad cy v550 v553) h556 hM_L_129 cal_X11_storm ⟨Nat.le_of_ble_eq_true rfl, Nat.le_of_ble_eq_true rfl⟩ ⟨rfl, rfl⟩ ⟨Nat.le_of_ble_eq_true rfl, Nat.le_of_ble_eq_true rfl⟩ rfl rfl (Nat.le_of_ble_eq_true rfl) dL_law_1019 ?_
                                                            rcases oi_e hf with ⟨c557, hf⟩ | ⟨c557, hf⟩
                                                            · refine g_icmp_eq_t (tgt := 1363) C dL_law_1022 (by decide) c557 ?_
                                                              obtain ⟨v558, ev558, hf⟩ := ol_e hf
                                                              refine g_iinc (j := 3) (w := 5) (lv2 := [(0, .ref b), (1, .ref (ad 0)), (2, .ref (ad 98)), (3, .int v558)]) C dL_law_1363 rfl (by decide) ev558 (by decide) [1, 2, 3, 0] rfl ?_
                                                              refine g_goto (tgt := 18) C dL_law_1366 (by decide) ?_
                                                              exact g_sub [0, 1, 2, 3] rfl (hs_18 σ555 v558 hf)
                                                            · refine g_icmp_eq_f (tgt := 1363) C dL_law_1022 (by decide) c557 ?_
                                                              refine g_iconst (v := 0) C dL_law_1025 (by decide) ?_
                                                              exact absurd (os_e hf).1 (by decide)
                                                          · skip
                                                            rcases oi_e hf with ⟨c559, hf⟩ | ⟨c559, hf⟩
                                                            · refine g_tin (tgt := 1027) C dL_law_32 (by rw [c559]; decide) (by rw [c559]; decide) (by rw [c559]; rfl) (by decide) ?_
                                                              refine g_aload_n C dL_law_1027 rfl 1 rfl ?_
                                                              refine g_aload_n C dL_law_1028 rfl 0 rfl ?_
                                                              refine g_iload_n C dL_law_1029 rfl 3 rfl ?_
                                                              refine g_iconst (v := 1) C dL_law_1030 (by decide) ?_
                                                              refine g_iadd C dL_law_1031 ?_
                                                              obtain ⟨v560, ev560, hf⟩ := ol_e hf
                                                              refine g_nm ev560 ?_
                                                              obtain ⟨h561, hf⟩ := og_e hf
                                                              refine g_sld C hX hbl hbA h561 dL_law_1032 ?_
                                                              obtain ⟨v562, ev562, hf⟩ := ol_e hf
                                                              refine g_nm ev562 ?_
                                                              refine g_aload_n C dL_law_1033 rfl 0 rfl ?_
                                                              refine g_iload_n C dL_law_1034 rfl 3 rfl ?_
                                                              refine g_iconst (v := 2) C dL_law_1035 (by decide) ?_
                                                              refine g_iadd C dL_law_1036 ?_
                                                              obtain ⟨v563, ev563, hf⟩ := ol_e hf
                                                              refine g_nm ev563 ?_
                                                              obtain ⟨h564, hf⟩ := og_e hf
                                                              refine g_sld C hX hbl hbA h564 dL_law_1037 ?_
                                                              obtain ⟨v565, ev565, hf⟩ := ol_e hf
                                                              refine g_nm ev565 ?_
                                                              obtain ⟨r566, σ567, h568, hf⟩ := obp_e hf
                                                              refine g_callVi (As := [.int v562, .int v565]) (rest := []) C (a_0 ad cy _) rfl (c_X10_wine l dC dI ad cy v562 v565) h568 hM_L_130 cal_X10_wine ⟨Nat.le_of_ble_eq_true rfl, Nat.le_of_ble_eq_true rfl⟩ ⟨rfl, rfl⟩ ⟨Nat.le_of_ble_eq_true rfl, Nat.le_of_ble_eq_true rfl⟩ rfl rfl (Nat.le_of_ble_eq_true rfl) dL_law_1038 ?_
                                                              refine g_aload_n C dL_law_1041 rfl 2 rfl ?_
                                                              refine g_aload_n C dL_law_1042 rfl 0 rfl ?_
                                                              refine g_iload_n C dL_law_1043 rfl 3 rfl ?_
                                                              refine g_iconst (v := 1) C dL_law_1044 (by decide) ?_
                                                              refine g_iadd C dL_law_1045 ?_
                                                              obtain ⟨v569, ev569, hf⟩ := ol_e hf
                                                              refine g_nm ev569 ?_
                                                              obtain ⟨h570, hf⟩ := og_e hf
                                                              refine g_sld C hX hbl hbA h570 dL_law_1046 ?_
                                                              obtain ⟨v571, ev571, hf⟩ := ol_e hf
                                                              refine g_nm ev571 ?_
                                                              refine g_aload_n C dL_law_1047 rfl 0 rfl ?_
                                                              refine g_iload_n C dL_law_1048 rfl 3 rfl ?_
                                                              refine g_iconst (v := 2) C dL_law_1049 (by decide) ?_
                                                              refine g_iadd C dL_law_1050 ?_
                                                              obtain ⟨v572, ev572, hf⟩ := ol_e hf
                                                              refine g_nm ev572 ?_
                                                              obtain ⟨h573, hf⟩ := og_e hf
                                                              refine g_sld C hX hbl hbA h573 dL_law_1051 ?_
                                                              obtain ⟨v574, ev574, hf⟩ := ol_e hf
                                                              refine g_nm ev574 ?_
                                                              obtain ⟨r575, σ576, h577, hf⟩ := obp_e hf
                                                              refine g_callVi (As := [.int v571, .int v574]) (rest := [.int r566]) C (a_98 ad cy _) rfl (c_X11_wine l dC dI ad cy v571 v574) h577 hM_L_133 cal_X11_wine ⟨Nat.le_of_ble_eq_true rfl, Nat.le_of_ble_eq_true rfl⟩ ⟨rfl, rfl⟩ ⟨Nat.le_of_ble_eq_true rfl, Nat.le_of_ble_eq_true rfl⟩ rfl rfl (Nat.le_of_ble_eq_true rfl) dL_law_1052 ?_
                                                              rcases oi_e hf with ⟨c578, hf⟩ | ⟨c578, hf⟩
                                                              · refine g_icmp_eq_t (tgt := 1363) C dL_law_1055 (by decide) c578 ?_
                                                                obtain ⟨v579, ev579, hf⟩ := ol_e hf
                                                                refine g_iinc (j := 3) (w := 5) (lv2 := [(0, .ref b), (1, .ref (ad 0)), (2, .ref (ad 98)), (3, .int v579)]) C dL_law_1363 rfl (by decide) ev579 (by decide) [1, 2, 3, 0] rfl ?_
                                                                refine g_goto (tgt := 18) C dL_law_1366 (by decide) ?_
                                                                exact g_sub [0, 1, 2, 3] rfl (hs_18 σ576 v579 hf)
                                                              · refine g_icmp_eq_f (tgt := 1363) C dL_law_1055 (by decide) c578 ?_
                                                                refine g_iconst (v := 0) C dL_law_1058 (by decide) ?_
                                                                exact absurd (os_e hf).1 (by decide)
                                                            · skip
                                                              rcases oi_e hf with ⟨c580, hf⟩ | ⟨c580, hf⟩
                                                              · refine g_tin (tgt := 1060) C dL_law_32 (by rw [c580]; decide) (by rw [c580]; decide) (by rw [c580]; rfl) (by decide) ?_
                                                                refine g_aload_n C dL_law_1060 rfl 1 rfl ?_
                                                                refine g_aload_n C dL_law_1061 rfl 0 rfl ?_
                                                                refine g_iload_n C dL_law_1062 rfl 3 rfl ?_
                                                                refine g_iconst (v := 1) C dL_law_1063 (by decide) ?_
                                                                refine g_iadd C dL_law_1064 ?_
                                                                obtain ⟨v581, ev581, hf⟩ := ol_e hf
                                                                refine g_nm ev581 ?_
                                                                obtain ⟨h582, hf⟩ := og_e hf
                                                                refine g_sld C hX hbl hbA h582 dL_law_1065 ?_
                                                                obtain ⟨v583, ev583, hf⟩ := ol_e hf
                                                                refine g_nm ev583 ?_
                                                                obtain ⟨r584, σ585, h586, hf⟩ := obp_e hf
                                                                refine g_callVi (As := [.int v583]) (rest := []) C (a_0 ad cy _) rfl (c_X10_hear l dC dI ad cy v583) h586 hM_L_134 cal_X10_hear ⟨Nat.le_of_ble_eq_true rfl, Nat.le_of_ble_eq_true rfl⟩ ⟨rfl, rfl⟩ ⟨Nat.le_of_ble_eq_true rfl, Nat.le_of_ble_eq_true rfl⟩ rfl rfl (Nat.le_of_ble_eq_true rfl) dL_law_1066 ?_
                                                                refine g_aload_n C dL_law_1069 rfl 2 rfl ?_
                                                                refine g_aload_n C dL_law_1070 rfl 0 rfl ?_
                                                                refine g_iload_n C dL_law_1071 rfl 3 rfl ?_
                                                                refine g_iconst (v := 1) C dL_law_1072 (by decide) ?_
                                                                refine g_iadd C dL_law_1073 ?_
                                                                obtain ⟨v587, ev587, hf⟩ := ol_e hf
                                                                refine g_nm ev587 ?_
                                                                obtain ⟨h588, hf⟩ := og_e hf
                                                                refine g_sld C hX hbl hbA h588 dL_law_1074 ?_
                                                                obtain ⟨v589, ev589, hf⟩ := ol_e hf
                                                                refine g_nm ev589 ?_
                                                                obtain ⟨r590, σ591, h592, hf⟩ := obp_e hf
                                                                refine g_callVi (As := [.int v589]) (rest := [.int r584]) C (a_98 ad cy _) rfl (c_X11_hear l dC dI ad cy v589) h592 hM_L_137 cal_X11_hear ⟨Nat.le_of_ble_eq_true rfl, Nat.le_of_ble_eq_true rfl⟩ ⟨rfl, rfl⟩ ⟨Nat.le_of_ble_eq_true rfl, Nat.le_of_ble_eq_true rfl⟩ rfl rfl (Nat.le_of_ble_eq_true rfl) dL_law_1075 ?_
                                                                rcases oi_e hf with ⟨c593, hf⟩ | ⟨c593, hf⟩
                                                                · refine g_icmp_eq_t (tgt := 1363) C dL_law_1078 (by decide) c593 ?_
                                                                  obtain ⟨v594, ev594, hf⟩ := ol_e hf
                                                                  refine g_iinc (j := 3) (w := 5) (lv2 := [(0, .ref b), (1, .ref (ad 0)), (2, .ref (ad 98)), (3, .int v594)]) C dL_law_1363 rfl (by decide) ev594 (by decide) [1, 2, 3, 0] rfl ?_
                                                                  refine g_goto (tgt := 18) C dL_law_1366 (by decide) ?_
                                                                  exact g_sub [0, 1, 2, 3] rfl (hs_18 σ591 v594 hf)
                                                                · refine g_icmp_eq_f (tgt := 1363) C dL_law_1078 (by decide) c593 ?_
                                                                  refine g_iconst (v := 0) C dL_law_1081 (by decide) ?_
                                                                  exact absurd (os_e hf).1 (by decide)
                                                              · skip
                                                                rcases oi_e hf with ⟨c595, hf⟩ | ⟨c595, hf⟩
                                                                · refine g_tin (tgt := 1083) C dL_law_32 (by rw [c595]; decide) (by rw [c595]; decide) (by rw [c595]; rfl) (by decide) ?_
                                                                  refine g_aload_n C dL_law_1083 rfl 1 rfl ?_
                                                                  obtain ⟨r596, σ597, h598, hf⟩ := obp_e hf
                                                                  refine g_callVi (As := []) (rest := []) C (a_0 ad cy _) rfl (c_X10_hush l dC dI ad cy ) h598 hM_L_138 cal_X10_hush ⟨Nat.le_of_ble_eq_true rfl, Nat.le_of_ble_eq_true rfl⟩ ⟨rfl, rfl⟩ ⟨Nat.le_of_ble_eq_true rfl, Nat.le_of_ble_eq_true rfl⟩ rfl rfl (Nat.le_of_ble_eq_true rfl) dL_law_1084 ?_
                                                                  refine g_aload_n C dL_law_1087 rfl 2 rfl ?_
                                                                  obtain ⟨r599, σ600, h601, hf⟩ := obp_e hf
                                                                  refine g_callVi (As := []) (rest := [.int r596]) C (a_98 ad cy _) rfl (c_X11_hush l dC dI ad cy ) h601 hM_L_141 cal_X11_hush ⟨Nat.le_of_ble_eq_true rfl, Nat.le_of_ble_eq_true rfl⟩ ⟨rfl, rfl⟩ ⟨Nat.le_of_ble_eq_true rfl, Nat.le_of_ble_eq_true rfl⟩ rfl rfl (Nat.le_of_ble_eq_true rfl) dL_law_1088 ?_
                                                                  rcases oi_e hf with ⟨c602, hf⟩ | ⟨c602, hf⟩
                                                                  · refine g_icmp_eq_t (tgt := 1363) C dL_law_1091 (by decide) c602 ?_
                                                                    obtain ⟨v603, ev603, hf⟩ := ol_e hf
                                                                    refine g_iinc (j := 3) (w := 5) (lv2 := [(0, .ref b), (1, .ref (ad 0)), (2, .ref (ad 98)), (3, .int v603)]) C dL_law_1363 rfl (by decide) ev603 (by decide) [1, 2, 3, 0] rfl ?_
                                                                    refine g_goto (tgt := 18) C dL_law_1366 (by decide) ?_
                                                                    exact g_sub [0, 1, 2, 3] rfl (hs_18 σ600 v603 hf)
                                                                  · refine g_icmp_eq_f (tgt := 1363) C dL_law_1091 (by decide) c602 ?_
                                                                    refine g_iconst (v := 0) C dL_law_1094 (by decide) ?_
                                                                    exact absurd (os_e hf).1 (by decide)
                                                                · skip
                                                                  rcases oi_e hf with ⟨c604, hf⟩ | ⟨c604, hf⟩
                                                                  · refine g_tin (tgt := 1096) C dL_law_32 (by rw [c604]; decide) (by rw [c604]; decide) (by rw [c604]; rfl) (by decide) ?_
                                                                    refine g_aload_n C dL_law_1096 rfl 1 rfl ?_
                                                                    refine g_aload_n C dL_law_1097 rfl 0 rfl ?_
                                                                    refine g_iload_n C dL_law_1098 rfl 3 rfl ?_
                                                                    refine g_iconst (v := 1) C dL_law_1099 (by decide) ?_
                                                                    refine g_iadd C dL_law_1100 ?_
                                                                    obtain ⟨v605, ev605, hf⟩ := ol_e hf
                                                                    refine g_nm ev605 ?_
                                                                    obtain ⟨h606, hf⟩ := og_e hf
                                                                    refine g_sld C hX hbl hbA h606 dL_law_1101 ?_
                                                                    obtain ⟨v607, ev607, hf⟩ := ol_e hf
                                                                    refine g_nm ev607 ?_
                                                                    obtain ⟨r608, σ609, h610, hf⟩ := obp_e hf
                                                                    refine g_callVi (As := [.int v607]) (rest := []) C (a_0 ad cy _) rfl (c_X10_fits l dC dI ad cy v607) h610 hM_L_142 cal_X10_fits ⟨Nat.le_of_ble_eq_true rfl, Nat.le_of_ble_eq_true rfl⟩ ⟨rfl, rfl⟩ ⟨Nat.le_of_ble_eq_true rfl, Nat.le_of_ble_eq_true rfl⟩ rfl rfl (Nat.le_of_ble_eq_true rfl) dL_law_1102 ?_
                                                                    refine g_aload_n C dL_law_1105 rfl 2 rfl ?_
                                                                    refine g_aload_n C dL_law_1106 rfl 0 rfl ?_
                                                                    refine g_iload_n C dL_law_1107 rfl 3 rfl ?_
                                                                    refine g_iconst (v := 1) C dL_law_1108 (by decide) ?_
                                                                    refine g_iadd C dL_law_1109 ?_
                                                                    obtain ⟨v611, ev611, hf⟩ := ol_e hf
                                                                    refine g_nm ev611 ?_
                                                                    obtain ⟨h612, hf⟩ := og_e hf
                                                                    refine g_sld C hX hbl hbA h612 dL_law_1110 ?_
                                                                    obtain ⟨v613, ev613, hf⟩ := ol_e hf
                                                                    refine g_nm ev613 ?_
                                                                    obtain ⟨r614, σ615, h616, hf⟩ := obp_e hf
                                                                    refine g_callVi (As := [.int v613]) (rest := [.int r608]) C (a_98 ad cy _) rfl (c_X11_fits l dC dI ad cy v613) h616 hM_L_145 cal_X11_fits ⟨Nat.le_of_ble_eq_true rfl, Nat.le_of_ble_eq_true rfl⟩ ⟨rfl, rfl⟩ ⟨Nat.le_of_ble_eq_true rfl, Nat.le_of_ble_eq_true rfl⟩ rfl rfl (Nat.le_of_ble_eq_true rfl) dL_law_1111 ?_
                                                                    rcases oi_e hf with ⟨c617, hf⟩ | ⟨c617, hf⟩
                                                                    · refine g_icmp_eq_t (tgt := 1363) C dL_law_1114 (by decide) c617 ?_
                                                                      obtain ⟨v618, ev618, hf⟩ := ol_e hf
                                                                      refine g_iinc (j := 3) (w := 5) (lv2 := [(0, .ref b), (1, .ref (ad 0)), (2, .ref (ad 98)), (3, .int v618)]) C dL_law_1363 rfl (by decide) ev618 (by decide) [1, 2, 3, 0] rfl ?_
                                                                      refine g_goto (tgt := 18) C dL_law_1366 (by decide) ?_
                                                                      exact g_sub [0, 1, 2, 3] rfl (hs_18 σ615 v618 hf)
                                                                    · refine g_icmp_eq_f (tgt := 1363) C dL_law_1114 (by decide) c617 ?_
                                                                      refine g_iconst (v := 0) C dL_law_1117 (by decide) ?_
                                                                      exact absurd (os_e hf).1 (by decide)
                                                                  · skip
                                                                    rcases oi_e hf with ⟨c619, hf⟩ | ⟨c619, hf⟩
                                                                    · refine g_tin (tgt := 1119) C dL_law_32 (by rw [c619]; decide) (by rw [c619]; decide) (by rw [c619]; rfl) (by decide) ?_
                                                                      refine g_aload_n C dL_law_1119 rfl 1 rfl ?_
                                                                      refine g_aload_n C dL_law_1120 rfl 0 rfl ?_
                                                                      refine g_iload_n C dL_law_1121 rfl 3 rfl ?_
                                                                      refine g_iconst (v := 1) C dL_law_1122 (by decide) ?_
                                                                      refine g_iadd C dL_law_1123 ?_
                                                                      obtain ⟨v620, ev620, hf⟩ := ol_e hf
                                                                      refine g_nm ev620 ?_
                                                                      obtain ⟨h621, hf⟩ := og_e hf
                                                                      refine g_sld C hX hbl hbA h621 dL_law_1124 ?_
                                                                      obtain ⟨v622, ev622, hf⟩ := ol_e hf
                                                                      refine g_nm ev622 ?_
                                                                      obtain ⟨r623, σ624, h625, hf⟩ := obp_e hf
                                                                      refine g_callVi (As := [.int v622]) (rest := []) C (a_0 ad cy _) rfl (c_X10_which l dC dI ad cy v622) h625 hM_L_146 cal_X10_which ⟨Nat.le_of_ble_eq_true rfl, Nat.le_of_ble_eq_true rfl⟩ ⟨rfl, rfl⟩ ⟨Nat.le_of_ble_eq_true rfl, Nat.le_of_ble_eq_true rfl⟩ rfl rfl (Nat.le_of_ble_eq_true rfl) dL_law_1125 ?_
                                                                      refine g_aload_n C dL_law_1128 rfl 2 rfl ?_
                                                                      refine g_aload_n C dL_law_1129 rfl 0 rfl ?_
                                                                      refine g_iload_n C dL_law_1130 rfl 3 rfl ?_
                                                                      refine g_iconst (v := 1) C dL_law_1131 (by decide) ?_
                                                                      refine g_iadd C dL_law_1132 ?_
                                                                      obtain ⟨v626, ev626, hf⟩ := ol_e hf
                                                                      refine g_nm ev626 ?_
                                                                      obtain ⟨h627, hf⟩ := og_e hf
                                                                      refine g_sld C hX hbl hbA h627 dL_law_1133 ?_
                                                                      obtain ⟨v628, ev628, hf⟩ := ol_e hf
                                                                      refine g_nm ev628 ?_
                                                                      obtain ⟨r629, σ630, h631, hf⟩ := obp_e hf
                                                                      refine g_callVi (As := [.int v628]) (rest := [.int r623]) C (a_98 ad cy _) rfl (c_X11_which l dC dI ad cy v628) h631 hM_L_149 cal_X11_which ⟨Nat.le_of_ble_eq_true rfl, Nat.le_of_ble_eq_true rfl⟩ ⟨rfl, rfl⟩ ⟨Nat.le_of_ble_eq_true rfl, Nat.le_of_ble_eq_true rfl⟩ rfl rfl (Nat.le_of_ble_eq_true rfl) dL_law_1134 ?_
                                                                      rcases oi_e hf with ⟨c632, hf⟩ | ⟨c632, hf⟩
                                                                      · refine g_icmp_eq_t (tgt := 1363) C dL_law_1137 (by decide) c632 ?_
                                                                        obtain ⟨v633, ev633, hf⟩ := ol_e hf
                                                                        refine g_iinc (j := 3) (w := 5) (lv2 := [(0, .ref b), (1, .ref (ad 0)), (2, .ref (ad 98)), (3, .int v633)]) C dL_law_1363 rfl (by decide) ev633 (by decide) [1, 2, 3, 0] rfl ?_
                                                                        refine g_goto (tgt := 18) C dL_law_1366 (by decide) ?_
                                                                        exact g_sub [0, 1, 2, 3] rfl (hs_18 σ630 v633 hf)
                                                                      · refine g_icmp_eq_f (tgt := 1363) C dL_law_1137 (by decide) c632 ?_
                                                                        refine g_iconst (v := 0) C dL_law_1140 (by decide) ?_
                                                                        exact absurd (os_e hf).1 (by decide)
                                                                    · skip
                                                                      rcases oi_e hf with ⟨c634, hf⟩ | ⟨c634, hf⟩
                                                                      · refine g_tin (tgt := 1142) C dL_law_32 (by rw [c634]; decide) (by rw [c634]; decide) (by rw [c634]; rfl) (by decide) ?_
                                                                        refine g_aload_n C dL_law_1142 rfl 1 rfl ?_
                                                                        refine g_aload_n C dL_law_1143 rfl 0 rfl ?_
                                                                        refine g_iload_n C dL_law_1144 rfl 3 rfl ?_
                                                                        refine g_iconst (v := 1) C dL_law_1145 (by decide) ?_
                                                                        refine g_iadd C dL_law_1146 ?_
                                                                        obtain ⟨v635, ev635, hf⟩ := ol_e hf
                                                                        refine g_nm ev635 ?_
                                                                        obtain ⟨h636, hf⟩ := og_e hf
                                                                        refine g_sld C hX hbl hbA h636 dL_law_1147 ?_
                                                                        obtain ⟨v637, ev637, hf⟩ := ol_e hf
                                                                        refine g_nm ev637 ?_
                                                                        obtain ⟨r638, σ639, h640, hf⟩ := obp_e hf
                                                                        refine g_callVi (As := [.int v637]) (rest := []) C (a_0 ad cy _) rfl (c_X10_keep l dC dI ad cy v637) h640 hM_L_150 cal_X10_keep ⟨Nat.le_of_ble_eq_true rfl, Nat.le_of_ble_eq_true rfl⟩ ⟨rfl, rfl⟩ ⟨Nat.le_of_ble_eq_true rfl, Nat.le_of_ble_eq_true rfl⟩ rfl rfl (Nat.le_of_ble_eq_true rfl) dL_law_1148 ?_
                                                                        refine g_aload_n C dL_law_1151 rfl 2 rfl ?_
                                                                        refine g_aload_n C dL_law_1152 rfl 0 rfl ?_
                                                                        refine g_iload_n C dL_law_1153 rfl 3 rfl ?_
                                                                        refine g_iconst (v := 1) C dL_law_1154 (by decide) ?_
                                                                        refine g_iadd C dL_law_1155 ?_
                                                                        obtain ⟨v641, ev641, hf⟩ := ol_e hf
                                                                        refine g_nm ev641 ?_
                                                                        obtain ⟨h642, hf⟩ := og_e hf
                                                                        refine g_sld C hX hbl hbA h642 dL_law_1156 ?_
                                                                        obtain ⟨v643, ev643, hf⟩ := ol_e hf
                                                                        refine g_nm ev643 ?_
                                                                        obtain ⟨r644, σ645, h646, hf⟩ := obp_e hf
                                                                        refine g_callVi (As := [.int v643]) (rest := [.int r638]) C (a_98 ad cy _) rfl (c_X11_keep l dC dI ad cy v643) h646 hM_L_153 cal_X11_keep ⟨Nat.le_of_ble_eq_true rfl, Nat.le_of_ble_eq_true rfl⟩ ⟨rfl, rfl⟩ ⟨Nat.le_of_ble_eq_true rfl, Nat.le_of_ble_eq_true rfl⟩ rfl rfl (Nat.le_of_ble_eq_true rfl) dL_law_1157 ?_
                                                                        rcases oi_e hf with ⟨c647, hf⟩ | ⟨c647, hf⟩
                                                                        · refine g_icmp_eq_t (tgt := 1363) C dL_law_1160 (by decide) c647 ?_
                                                                          obtain ⟨v648, ev648, hf⟩ := ol_e hf
                                                                          refine g_iinc (j := 3) (w := 5) (lv2 := [(0, .ref b), (1, .ref (ad 0)), (2, .ref (ad 98)), (3, .int v648)]) C dL_law_1363 rfl (by decide) ev648 (by decide) [1, 2, 3, 0] rfl ?_
                                                                          refine g_goto (tgt := 18) C dL_law_1366 (by decide) ?_
                                                                          exact g_sub [0, 1, 2, 3] rfl (hs_18 σ645 v648 hf)
                                                                        · refine g_icmp_eq_f (tgt := 1363) C dL_law_1160 (by decide) c647 ?_
                                                                          refine g_iconst (v := 0) C dL_law_1163 (by decide) ?_
                                                                          exact absurd (os_e hf).1 (by decide)
                                                                      · skip
                                                                        rcases oi_e hf with ⟨c649, hf⟩ | ⟨c649, hf⟩
                                                                        · refine g_tin (tgt := 1165) C dL_law_32 (by rw [c649]; decide) (by rw [c649]; decide) (by rw [c649]; rfl) (by decide) ?_
                                                                          refine g_aload_n C dL_law_1165 rfl 1 rfl ?_
                                                                          refine g_aload_n C dL_law_1166 rfl 0 rfl ?_
                                                                          refine g_iload_n C dL_law_1167 rfl 3 rfl ?_
                                                                          refine g_iconst (v := 1) C dL_law_1168 (by decide) ?_
                                                                          refine g_iadd C dL_law_1169 ?_
                                                                          obtain ⟨v650, ev650, hf⟩ := ol_e hf
                                                                          refine g_nm ev650 ?_
                                                                          obtain ⟨h651, hf⟩ := og_e hf
                                                                          refine g_sld C hX hbl hbA h651 dL_law_1170 ?_
                                                                          obtain ⟨v652, ev652, hf⟩ := ol_e hf
                                                                          refine g_nm ev652 ?_
                                                                          obtain ⟨r653, σ654, h655, hf⟩ := obp_e hf
                                                                          refine g_callVi (As := [.int v652]) (rest := []) C (a_0 ad cy _) rfl (c_X10_back l dC dI ad cy v652) h655 hM_L_154 cal_X10_back ⟨Nat.le_of_ble_eq_true rfl, Nat.le_of_ble_eq_true rfl⟩ ⟨rfl, rfl⟩ ⟨Nat.le_of_ble_eq_true rfl, Nat.le_of_ble_eq_true rfl⟩ rfl rfl (Nat.le_of_ble_eq_true rfl) dL_law_1171 ?_
                                                                          refine g_aload_n C dL_law_1174 rfl 2 rfl ?_
                                                                          refine g_aload_n C dL_law_1175 rfl 0 rfl ?_
                                                                          refine g_iload_n C dL_law_1176 rfl 3 rfl ?_
                                                                          refine g_iconst (v := 1) C dL_law_1177 (by decide) ?_
                                                                          refine g_iadd C dL_law_1178 ?_
                                                                          obtain ⟨v656, ev656, hf⟩ := ol_e hf
                                                                          refine g_nm ev656 ?_
                                                                          obtain ⟨h657, hf⟩ := og_e hf
                                                                          refine g_sld C hX hbl hbA h657 dL_law_1179 ?_
                                                                          obtain ⟨v658, ev658, hf⟩ := ol_e hf
                                                                          refine g_nm ev658 ?_
                                                                          obtain ⟨r659, σ660, h661, hf⟩ := obp_e hf
                                                                          refine g_callVi (As := [.int v658]) (rest := [.int r653]) C (a_98 ad cy _) rfl (c_X11_back l dC dI ad cy v658) h661 hM_L_157 cal_X11_back ⟨Nat.le_of_ble_eq_true rfl, Nat.le_of_ble_eq_true rfl⟩ ⟨rfl, rfl⟩ ⟨Nat.le_of_ble_eq_true rfl, Nat.le_of_ble_eq_true rfl⟩ rfl rfl (Nat.le_of_ble_eq_true rfl) dL_law_1180 ?_
                                                                          rcases oi_e hf with ⟨c662, hf⟩ | ⟨c662, hf⟩
                                                                          · refine g_icmp_eq_t (tgt := 1363) C dL_law_1183 (by decide) c662 ?_
                                                                            obtain ⟨v663, ev663, hf⟩ := ol_e hf
                                                                            refine g_iinc (j := 3) (w := 5) (lv2 := [(0, .ref b), (1, .ref (ad 0)), (2, .ref (ad 98)), (3, .int v663)]) C dL_law_1363 rfl (by decide) ev663 (by decide) [1, 2, 3, 0] rfl ?_
                                                                            refine g_goto (tgt := 18) C dL_law_1366 (by decide) ?_
                                                                            exact g_sub [0, 1, 2, 3] rfl (hs_18 σ660 v663 hf)
                                                                          · refine g_icmp_eq_f (tgt := 1363) C dL_law_1183 (by decide) c662 ?_
                                                                            refine g_iconst (v := 0) C dL_law_1186 (by decide) ?_
                                                                            exact absurd (os_e hf).1 (by decide)
                                                                        · skip
                                                                          rcases oi_e hf with ⟨c664, hf⟩ | ⟨c664, hf⟩
                                                                          · refine g_tin (tgt := 1188) C dL_law_32 (by rw [c664]; decide) (by rw [c664]; decide) (by rw [c664]; rfl) (by decide) ?_
                                                                            refine g_aload_n C dL_law_1188 rfl 1 rfl ?_
                                                                            refine g_aload_n C dL_law_1189 rfl 0 rfl ?_
                                                                            refine g_iload_n C dL_law_1190 rfl 3 rfl ?_
                                                                            refine g_iconst (v := 1) C dL_law_1191 (by decide) ?_
                                                                            refine g_iadd C dL_law_1192 ?_
                                                                            obtain ⟨v665, ev665, hf⟩ := ol_e hf
                                                                            refine g_nm ev665 ?_
                                                                            obtain ⟨h666, hf⟩ := og_e hf
                                                                            refine g_sld C hX hbl hbA h666 dL_law_1193 ?_
                                                                            obtain ⟨v667, ev667, hf⟩ := ol_e hf
                                                                            refine g_nm ev667 ?_
                                                                            refine g_aload_n C dL_law_1194 rfl 0 rfl ?_
                                                                            refine g_iload_n C dL_law_1195 rfl 3 rfl ?_
                                                                            refine g_iconst (v := 2) C dL_law_1196 (by decide) ?_
                                                                            refine g_iadd C dL_law_1197 ?_
                                                                            obtain ⟨v668, ev668, hf⟩ := ol_e hf
                                                                            refine g_nm ev668 ?_
                                                                            obtain ⟨h669, hf⟩ := og_e hf
                                                                            refine g_sld C hX hbl hbA h669 dL_law_1198 ?_
                                                                            obtain ⟨v670, ev670, hf⟩ := ol_e hf
                                                                            refine g_nm ev670 ?_
                                                                            refine g_aload_n C dL_law_1199 rfl 0 rfl ?_
                                                                            refine g_iload_n C dL_law_1200 rfl 3 rfl ?_
                                                                            refine g_iconst (v := 3) C dL_law_1201 (by decide) ?_
                                                                            refine g_iadd C dL_law_1202 ?_
                                                                            obtain ⟨v671, ev671, hf⟩ := ol_e hf
                                                                            refine g_nm ev671 ?_
                                                                            obtain ⟨h672, hf⟩ := og_e hf
                                                                            refine g_sld C hX hbl hbA h672 dL_law_1203 ?_
                                                                            obtain ⟨v673, ev673, hf⟩ := ol_e hf
                                                                            refine g_nm ev673 ?_
                                                                            obtain ⟨r674, σ675, h676, hf⟩ := obp_e hf
                                                                            refine g_callVi (As := [.int v667, .int v670, .int v673]) (rest := []) C (a_0 ad cy _) rfl (c_X10_sheet l dC dI ad cy v667 v670 v673) h676 hM_L_158 cal_X10_sheet ⟨Nat.le_of_ble_eq_true rfl, Nat.le_of_ble_eq_true rfl⟩ ⟨rfl, rfl⟩ ⟨Nat.le_of_ble_eq_true rfl, Nat.le_of_ble_eq_true rfl⟩ rfl rfl (Nat.le_of_ble_eq_true rfl) dL_law_1204 ?_
                                                                            refine g_aload_n C dL_law_1207 rfl 2 rfl ?_
                                                                            refine g_aload_n C dL_law_1208 rfl 0 rfl ?_
                                                                            refine g_iload_n C dL_law_1209 rfl 3 rfl ?_
                                                                            refine g_iconst (v := 1) C dL_law_1210 (by decide) ?_
                                                                            refine g_iadd C dL_law_1211 ?_
                                                                            obtain ⟨v677, ev677, hf⟩ := ol_e hf
                                                                            refine g_nm ev677 ?_
                                                                            obtain ⟨h678, hf⟩ := og_e hf
                                                                            refine g_sld C hX hbl hbA h678 dL_law_1212 ?_
                                                                            obtain ⟨v679, ev679, hf⟩ := ol_e hf
                                                                            refine g_nm ev679 ?_
                                                                            refine g_aload_n C dL_law_1213 rfl 0 rfl ?_
                                                                            refine g_iload_n C dL_law_1214 rfl 3 rfl ?_
                                                                            refine g_iconst (v := 2) C dL_law_1215 (by decide) ?_
                                                                            refine g_iadd C dL_law_1216 ?_
                                                                            obtain ⟨v680, ev680, hf⟩ := ol_e hf
                                                                            refine g_nm ev680 ?_
                                                                            obtain ⟨h681, hf⟩ := og_e hf
                                                                            refine g_sld C hX hbl hbA h681 dL_law_1217 ?_
                                                                            obtain ⟨v682, ev682, hf⟩ := ol_e hf
                                                                            refine g_nm ev682 ?_
                                                                            refine g_aload_n C dL_law_1218 rfl 0 rfl ?_
                                                                            refine g_iload_n C dL_law_1219 rfl 3 rfl ?_
                                                                            refine g_iconst (v := 3) C dL_law_1220 (by decide) ?_
                                                                            refine g_iadd C dL_law_1221 ?_
                                                                            obtain ⟨v683, ev683, hf⟩ := ol_e hf
                                                                            refine g_nm ev683 ?_
                                                                            obtain ⟨h684, hf⟩ := og_e hf
                                                                            refine g_sld C hX hbl hbA h684 dL_law_1222 ?_
                                                                            obtain ⟨v685, ev685, hf⟩ := ol_e hf
                                                                            refine g_nm ev685 ?_
                                                                            obtain ⟨r686, σ687, h688, hf⟩ := obp_e hf
                                                                            refine g_callVi (As := [.int v679, .int v682, .int v685]) (rest := [.int r674]) C (a_98 ad cy _) rfl (c_X11_sheet l dC dI ad cy v679 v682 v685) h688 hM_L_161 cal_X11_sheet ⟨Nat.le_of_ble_eq_true rfl, Nat.le_of_ble_eq_true rfl⟩ ⟨rfl, rfl⟩ ⟨Nat.le_of_ble_eq_true rfl, Nat.le_of_ble_eq_true rfl⟩ rfl rfl (Nat.le_of_ble_eq_true rfl) dL_law_1223 ?_
                                                                            rcases oi_e hf with ⟨c689, hf⟩ | ⟨c689, hf⟩
                                                                            · refine g_icmp_eq_t (tgt := 1363) C dL_law_1226 (by decide) c689 ?_
                                                                              obtain ⟨v690, ev690, hf⟩ := ol_e hf
                                                                              refine g_iinc (j := 3) (w := 5) (lv2 := [(0, .ref b), (1, .ref (ad 0)), (2, .ref (ad 98)), (3, .int v690)]) C dL_law_1363 rfl (by decide) ev690 (by decide) [1, 2, 3, 0] rfl ?_
                                                                              refine g_goto (tgt := 18) C dL_law_1366 (by decide) ?_
                                                                              exact g_sub [0, 1, 2, 3] rfl (hs_18 σ687 v690 hf)
                                                                            · refine g_icmp_eq_f (tgt := 1363) C dL_law_1226 (by decide) c689 ?_
                                                                              refine g_iconst (v := 0) C dL_law_1229 (by decide) ?_
                                                                              exact absurd (os_e hf).1 (by decide)
                                                                          · skip
                                                                            rcases oi_e hf with ⟨c691, hf⟩ | ⟨c691, hf⟩
                                                                            · refine g_tin (tgt := 1231) C dL_law_32 (by rw [c691]; decide) (by rw [c691]; decide) (by rw [c691]; rfl) (by decide) ?_
                                                                              refine g_aload_n C dL_law_1231 rfl 1 rfl ?_
                                                                              refine g_aload_n C dL_law_1232 rfl 0 rfl ?_
                                                                              refine g_iload_n C dL_law_1233 rfl 3 rfl ?_
                                                                              refine g_iconst (v := 1) C dL_law_1234 (by decide) ?_
                                                                              refine g_iadd C dL_law_1235 ?_
                                                                              obtain ⟨v692, ev692, hf⟩ := ol_e hf
                                                                              refine g_nm ev692 ?_
                                                                              obtain ⟨h693, hf⟩ := og_e hf
                                                                              refine g_sld C hX hbl hbA h693 dL_law_1236 ?_
                                                                              obtain ⟨v694, ev694, hf⟩ := ol_e hf
                                                                              refine g_nm ev694 ?_
                                                                              refine g_aload_n C dL_law_1237 rfl 0 rfl ?_
                                                                              refine g_iload_n C dL_law_1238 rfl 3 rfl ?_
                                                                              refine g_iconst (v := 2) C dL_law_1239 (by decide) ?_
                                                                              refine g_iadd C dL_law_1240 ?_
                                                                              obtain ⟨v695, ev695, hf⟩ := ol_e hf
                                                                              refine g_nm ev695 ?_
                                                                              obtain ⟨h696, hf⟩ := og_e hf
                                                                              refine g_sld C hX hbl hbA h696 dL_law_1241 ?_
                                                                              obtain ⟨v697, ev697, hf⟩ := ol_e hf
                                                                              refine g_nm ev697 ?_
                                                                              refine g_aload_n C dL_law_1242 rfl 0 rfl ?_
                                                                              refine g_iload_n C dL_law_1243 rfl 3 rfl ?_
                                                                              refine g_iconst (v := 3) C dL_law_1244 (by decide) ?_
                                                                              refine g_iadd C dL_law_1245 ?_
                                                                              obtain ⟨v698, ev698, hf⟩ := ol_e hf
                                                                              refine g_nm ev698 ?_
                                                                              obtain ⟨h699, hf⟩ := og_e hf
                                                                              refine g_sld C hX hbl hbA h699 dL_law_1246 ?_
                                                                              obtain ⟨v700, ev700, hf⟩ := ol_e hf
                                                                              refine g_nm ev700 ?_
                                                                              obtain ⟨r701, σ702, h703, hf⟩ := obp_e hf
                                                                              refine g_callVi (As := [.int v694, .int v697, .int v700]) (rest := []) C (a_0 ad cy _) rfl (c_X10_lay l dC dI ad cy v694 v697 v700) h703 hM_L_162 cal_X10_lay ⟨Nat.le_of_ble_eq_true rfl, Nat.le_of_ble_eq_true rfl⟩ ⟨rfl, rfl⟩ ⟨Nat.le_of_ble_eq_true rfl, Nat.le_of_ble_eq_true rfl⟩ rfl rfl (Nat.le_of_ble_eq_true rfl) dL_law_1247 ?_
                                                                              refine g_aload_n C dL_law_1250 rfl 2 rfl ?_
                                                                              refine g_aload_n C dL_law_1251 rfl 0 rfl ?_
                                                                              refine g_iload_n C dL_law_1252 rfl 3 rfl ?_
                                                                              refine g_iconst (v := 1) C dL_law_1253 (by decide) ?_
                                                                              refine g_iadd C dL_law_1254 ?_
                                                                              obtain ⟨v704, ev704, hf⟩ := ol_e hf
                                                                              refine g_nm ev704 ?_
                                                                              obtain ⟨h705, hf⟩ := og_e hf
                                                                              refine g_sld C hX hbl hbA h705 dL_law_1255 ?_
                                                                              obtain ⟨v706, ev706, hf⟩ := ol_e hf
                                                                              refine g_nm ev706 ?_
                                                                              refine g_aload_n C dL_law_1256 rfl 0 rfl ?_
                                                                              refine g_iload_n C dL_law_1257 rfl 3 rfl ?_
                                                                              refine g_iconst (v := 2) C dL_law_1258 (by decide) ?_
                                                                              refine g_iadd C dL_law_1259 ?_
                                                                              obtain ⟨v707, ev707, hf⟩ := ol_e hf
                                                                              refine g_nm ev707 ?_
                                                                              obtain ⟨h708, hf⟩ := og_e hf
                                                                              refine g_sld C hX hbl hbA h708 dL_law_1260 ?_
                                                                              obtain ⟨v709, ev709, hf⟩ := ol_e hf
                                                                              refine g_nm ev709 ?_
                                                                              refine g_aload_n C dL_law_1261 rfl 0 rfl ?_
                                                                              refine g_iload_n C dL_law_1262 rfl 3 rfl ?_
                                                                              refine g_iconst (v := 3) C dL_law_1263 (by decide) ?_
                                                                              refine g_iadd C dL_law_1264 ?_
                                                                              obtain ⟨v710, ev710, hf⟩ := ol_e hf
                                                                              refine g_nm ev710 ?_
                                                                              obtain ⟨h711, hf⟩ := og_e hf
                                                                              refine g_sld C hX hbl hbA h711 dL_law_1265 ?_
                                                                              obtain ⟨v712, ev712, hf⟩ := ol_e hf
                                                                              refine g_nm ev712 ?_
                                                                              obtain ⟨r713, σ714, h715, hf⟩ := obp_e hf
                                                                              refine g_callVi (As := [.int v706, .int v709, .int v712]) (rest := [.int r701]) C (a_98 ad cy _) rfl (c_X11_lay l dC dI ad cy v706 v709 v712) h715 hM_L_165 cal_X11_lay ⟨Nat.le_of_ble_eq_true rfl, Nat.le_of_ble_eq_true rfl⟩ ⟨rfl, rfl⟩ ⟨Nat.le_of_ble_eq_true rfl, Nat.le_of_ble_eq_true rfl⟩ rfl rfl (Nat.le_of_ble_eq_true rfl) dL_law_1266 ?_
                                                                              rcases oi_e hf with ⟨c716, hf⟩ | ⟨c716, hf⟩
                                                                              · refine g_icmp_eq_t (tgt := 1363) C dL_law_1269 (by decide) c716 ?_
                                                                                obtain ⟨v717, ev717, hf⟩ := ol_e hf
                                                                                refine g_iinc (j := 3) (w := 5) (lv2 := [(0, .ref b), (1, .ref (ad 0)), (2, .ref (ad 98)), (3, .int v717)]) C dL_law_1363 rfl (by decide) ev717 (by decide) [1, 2, 3, 0] rfl ?_
                                                                                refine g_goto (tgt := 18) C dL_law_1366 (by decide) ?_
                                                                                exact g_sub [0, 1, 2, 3] rfl (hs_18 σ714 v717 hf)
                                                                              · refine g_icmp_eq_f (tgt := 1363) C dL_law_1269 (by decide) c716 ?_
                                                                                refine g_iconst (v := 0) C dL_law_1272 (by decide) ?_
                                                                                exact absurd (os_e hf).1 (by decide)
                                                                            · skip
                                                                              rcases oi_e hf with ⟨c718, hf⟩ | ⟨c718, hf⟩
                                                                              · refine g_tin (tgt := 1274) C dL_law_32 (by rw [c718]; decide) (by rw [c718]; decide) (by rw [c718]; rfl) (by decide) ?_
                                                                                refine g_aload_n C dL_law_1274 rfl 1 rfl ?_
                                                                                refine g_aload_n C dL_law_1275 rfl 0 rfl ?_
                                                                                refine g_iload_n C dL_law_1276 rfl 3 rfl ?_
                                                                                refine g_iconst (v := 1) C dL_law_1277 (by decide) ?_
                                                                                refine g_iadd C dL_law_1278 ?_
                                                                                obtain ⟨v719, ev719, hf⟩ := ol_e hf
                                                                                refine g_nm ev719 ?_
                                                                                obtain ⟨h720, hf⟩ := og_e hf
                                                                                refine g_sld C hX hbl hbA h720 dL_law_1279 ?_
                                                                                obtain ⟨v721, ev721, hf⟩ := ol_e hf
                                                                                refine g_nm ev721 ?_
                                                                                refine g_aload_n C dL_law_1280 rfl 0 rfl ?_
                                                                                refine g_iload_n C dL_law_1281 rfl 3 rfl ?_
                                                                                refine g_iconst (v := 2) C dL_law_1282 (by decide) ?_
                                                                                refine g_iadd C dL_law_1283 ?_
                                                                                obtain ⟨v722, ev722, hf⟩ := ol_e hf
                                                                                refine g_nm ev722 ?_
                                                                                obtain ⟨h723, hf⟩ := og_e hf
                                                                                refine g_sld C hX hbl hbA h723 dL_law_1284 ?_
                                                                                obtain ⟨v724, ev724, hf⟩ := ol_e hf
                                                                                refine g_nm ev724 ?_
                                                                                refine g_aload_n C dL_law_1285 rfl 0 rfl ?_
                                                                                refine g_iload_n C dL_law_1286 rfl 3 rfl ?_
                                                                                refine g_iconst (v := 3) C dL_law_1287 (by decide) ?_
                                                                                refine g_iadd C dL_law_1288 ?_
                                                                                obtain ⟨v725, ev725, hf⟩ := ol_e hf
                                                                                refine g_nm ev725 ?_
                                                                                obtain ⟨h726, hf⟩ := og_e hf
                                                                                refine g_sld C hX hbl hbA h726 dL_law_1289 ?_
                                                                                obtain ⟨v727, ev727, hf⟩ := ol_e hf
                                                                                refine g_nm ev727 ?_
                                                                                refine g_aload_n C dL_law_1290 rfl 0 rfl ?_
                                                                                refine g_iload_n C dL_law_1291 rfl 3 rfl ?_
                                                                                refine g_iconst (v := 4) C dL_law_1292 (by decide) ?_
                                                                                refine g_iadd C dL_law_1293 ?_
                                                                                obtain ⟨v728, ev728, hf⟩ := ol_e hf
                                                                                refine g_nm ev728 ?_
                                                                                obtain ⟨h729, hf⟩ := og_e hf
                                                                                refine g_sld C hX hbl hbA h729 dL_law_1294 ?_
                                                                                obtain ⟨v730, ev730, hf⟩ := ol_e hf
                                                                                refine g_nm ev730 ?_
                                                                                obtain ⟨r731, σ732, h733, hf⟩ := obp_e hf
                                                                                refine g_callVi (As := [.int v721, .int v724, .int v727, .int v730]) (rest := []) C (a_0 ad cy _) rfl (c_X10_read l dC dI ad cy v721 v724 v727 v730) h733 hM_L_166 cal_X10_read ⟨Nat.le_of_ble_eq_true rfl, Nat.le_of_ble_eq_true rfl⟩ ⟨rfl, rfl⟩ ⟨Nat.le_of_ble_eq_true rfl, Nat.le_of_ble_eq_true rfl⟩ rfl rfl (Nat.le_of_ble_eq_true rfl) dL_law_1295 ?_
                                                                                refine g_aload_n C dL_law_1298 rfl 2 rfl ?_
                                                                                refine g_aload_n C dL_law_1299 rfl 0 rfl ?_
                                                                                refine g_iload_n C dL_law_1300 rfl 3 rfl ?_
                                                                                refine g_iconst (v := 1) C dL_law_1301 (by decide) ?_
                                                                                refine g_iadd C dL_law_1302 ?_
                                                                                obtain ⟨v734, ev734, hf⟩ := ol_e hf
                                                                                refine g_nm ev734 ?_
                                                                                obtain ⟨h735, hf⟩ := og_e hf
                                                                                refine g_sld C hX hbl hbA h735 dL_law_1303 ?_
                                                                                obtain ⟨v736, ev736, hf⟩ := ol_e hf
                                                                                refine g_nm ev736 ?_
                                                                                refine g_aload_n C dL_law_1304 rfl 0 rfl ?_
                                                                                refine g_iload_n C dL_law_1305 rfl 3 rfl ?_
                                                                                refine g_iconst (v := 2) C dL_law_1306 (by decide) ?_
                                                                                refine g_iadd C dL_law_1307 ?_
                                                                                obtain ⟨v737, ev737, hf⟩ := ol_e hf
                                                                                refine g_nm ev737 ?_
                                                                                obtain ⟨h738, hf⟩ := og_e hf
                                                                                refine g_sld C hX hbl hbA h738 dL_law_1308 ?_
                                                                                obtain ⟨v739, ev739, hf⟩ := ol_e hf
                                                                                refine g_nm ev739 ?_
                                                                                refine g_aload_n C dL_law_1309 rfl 0 rfl ?_
                                                                                refine g_iload_n C dL_law_1310 rfl 3 rfl ?_
                                                                                refine g_iconst (v := 3) C dL_law_1311 (by decide) ?_
                                                                                refine g_iadd C dL_law_1312 ?_
                                                                                obtain ⟨v740, ev740, hf⟩ := ol_e hf
                                                                                refine g_nm ev740 ?_
                                                                                obtain ⟨h741, hf⟩ := og_e hf
                                                                                refine g_sld C hX hbl hbA h741 dL_law_1313 ?_
                                                                                obtain ⟨v742, ev742, hf⟩ := ol_e hf
                                                                                refine g_nm ev742 ?_
                                                                                refine g_aload_n C dL_law_1314 rfl 0 rfl ?_
                                                                                refine g_iload_n C dL_law_1315 rfl 3 rfl ?_
                                                                                refine g_iconst (v := 4) C dL_law_1316 (by decide) ?_
                                                                                refine g_iadd C dL_law_1317 ?_
                                                                                obtain ⟨v743, ev743, hf⟩ := ol_e hf
                                                                                refine g_nm ev743 ?_
                                                                                obtain ⟨h744, hf⟩ := og_e hf
                                                                                refine g_sld C hX hbl hbA h744 dL_law_1318 ?_
                                                                                obtain ⟨v745, ev745, hf⟩ := ol_e hf
                                                                                refine g_nm ev745 ?_
                                                                                obtain ⟨r746, σ747, h748, hf⟩ := obp_e hf
                                                                                refine g_callVi (As := [.int v736, .int v739, .int v742, .int v745]) (rest := [.int r731]) C (a_98 ad cy _) rfl (c_X11_read l dC dI ad cy v736 v739 v742 v745) h748 hM_L_170 cal_X11_read ⟨Nat.le_of_ble_eq_true rfl, Nat.le_of_ble_eq_true rfl⟩ ⟨rfl, rfl⟩ ⟨Nat.le_of_ble_eq_true rfl, Nat.le_of_ble_eq_true rfl⟩ rfl rfl (Nat.le_of_ble_eq_true rfl) dL_law_1319 ?_
                                                                                rcases oi_e hf with ⟨c749, hf⟩ | ⟨c749, hf⟩
                                                                                · refine g_icmp_eq_t (tgt := 1363) C dL_law_1322 (by decide) c749 ?_
                                                                                  obtain ⟨v750, ev750, hf⟩ := ol_e hf
                                                                                  refine g_iinc (j := 3) (w := 5) (lv2 := [(0, .ref b), (1, .ref (ad 0)), (2, .ref (ad 98)), (3, .int v750)]) C dL_law_1363 rfl (by decide) ev750 (by decide) [1, 2, 3, 0] rfl ?_
                                                                                  refine g_goto (tgt := 18) C dL_law_1366 (by decide) ?_
                                                                                  exact g_sub [0, 1, 2, 3] rfl (hs_18 σ747 v750 hf)
                                                                                · refine g_icmp_eq_f (tgt := 1363) C dL_law_1322 (by decide) c749 ?_
                                                                                  refine g_iconst (v := 0) C dL_law_1325 (by decide) ?_
                                                                                  exact absurd (os_e hf).1 (by decide)
                                                                              · skip
                                                                                rcases oi_e hf with ⟨c751, hf⟩ | ⟨c751, hf⟩
                                                                                · refine g_tin (tgt := 1327) C dL_law_32 (by rw [c751]; decide) (by rw [c751]; decide) (by rw [c751]; rfl) (by decide) ?_
                                                                                  refine g_aload_n C dL_law_1327 rfl 1 rfl ?_
                                                                                  obtain ⟨r752, σ753, h754, hf⟩ := obp_e hf
                                                                                  refine g_callVi (As := []) (rest := []) C (a_0 ad cy _) rfl (c_X10_torn l dC dI ad cy ) h754 hM_L_171 cal_X10_torn ⟨Nat.le_of_ble_eq_true rfl, Nat.le_of_ble_eq_true rfl⟩ ⟨rfl, rfl⟩ ⟨Nat.le_of_ble_eq_true rfl, Nat.le_of_ble_eq_true rfl⟩ rfl rfl (Nat.le_of_ble_eq_true rfl) dL_law_1328 ?_
                                                                                  refine g_aload_n C dL_law_1331 rfl 2 rfl ?_
                                                                                  obtain ⟨r755, σ756, h757, hf⟩ := obp_e hf
                                                                                  refine g_callVi (As := []) (rest := [.int r752]) C (a_98 ad cy _) rfl (c_X11_torn l dC dI ad cy ) h757 hM_L_174 cal_X11_torn ⟨Nat.le_of_ble_eq_true rfl, Nat.le_of_ble_eq_true rfl⟩ ⟨rfl, rfl⟩ ⟨Nat.le_of_ble_eq_true rfl, Nat.le_of_ble_eq_true rfl⟩ rfl rfl (Nat.le_of_ble_eq_true rfl) dL_law_1332 ?_
                                                                                  rcases oi_e hf with ⟨c758, hf⟩ | ⟨c758, hf⟩
                                                                                  · refine g_icmp_eq_t (tgt := 1363) C dL_law_1335 (by decide) c758 ?_
                                                                                    obtain ⟨v759, ev759, hf⟩ := ol_e hf
                                                                                    refine g_iinc (j := 3) (w := 5) (lv2 := [(0, .ref b), (1, .ref (ad 0)), (2, .ref (ad 98)), (3, .int v759)]) C dL_law_1363 rfl (by decide) ev759 (by decide) [1, 2, 3, 0] rfl ?_
                                                                                    refine g_goto (tgt := 18) C dL_law_1366 (by decide) ?_
                                                                                    exact g_sub [0, 1, 2, 3] rfl (hs_18 σ756 v759 hf)
                                                                                  · refine g_icmp_eq_f (tgt := 1363) C dL_law_1335 (by decide) c758 ?_
                                                                                    refine g_iconst (v := 0) C dL_law_1338 (by decide) ?_
                                                                                    exact absurd (os_e hf).1 (by decide)
                                                                                · skip
                                                                                  rcases oi_e hf with ⟨c760, hf⟩ | ⟨c760, hf⟩
                                                                                  · refine g_tin (tgt := 1340) C dL_law_32 (by rw [c760]; decide) (by rw [c760]; decide) (by rw [c760]; rfl) (by decide) ?_
                                                                                    refine g_aload_n C dL_law_1340 rfl 1 rfl ?_
                                                                                    refine g_aload_n C dL_law_1341 rfl 0 rfl ?_
                                                                                    refine g_iload_n C dL_law_1342 rfl 3 rfl ?_
                                                                                    refine g_iconst (v := 1) C dL_law_1343 (by decide) ?_
                                                                                    refine g_iadd C dL_law_1344 ?_
                                                                                    obtain ⟨v761, ev761, hf⟩ := ol_e hf
                                                                                    refine g_nm ev761 ?_
                                                                                    obtain ⟨h762, hf⟩ := og_e hf
                                                                                    refine g_sld C hX hbl hbA h762 dL_law_1345 ?_
                                                                                    obtain ⟨v763, ev763, hf⟩ := ol_e hf
                                                                                    refine g_nm ev763 ?_
                                                                                    obtain ⟨r764, σ765, h766, hf⟩ := obp_e hf
                                                                                    refine g_callVi (As := [.int v763]) (rest := []) C (a_0 ad cy _) rfl (c_X10_count l dC dI ad cy v763) h766 hM_L_175 cal_X10_count ⟨Nat.le_of_ble_eq_true rfl, Nat.le_of_ble_eq_true rfl⟩ ⟨rfl, rfl⟩ ⟨Nat.le_of_ble_eq_true rfl, Nat.le_of_ble_eq_true rfl⟩ rfl rfl (Nat.le_of_ble_eq_true rfl) dL_law_1346 ?_
                                                                                    refine g_aload_n C dL_law_1349 rfl 2 rfl ?_
                                                                                    refine g_aload_n C dL_law_1350 rfl 0 rfl ?_
                                                                                    refine g_iload_n C dL_law_1351 rfl 3 rfl ?_
                                                                                    refine g_iconst (v := 1) C dL_law_1352 (by decide) ?_
                                                                                    refine g_iadd C dL_law_1353 ?_
                                                                                    obtain ⟨v767, ev767, hf⟩ := ol_e hf
                                                                                    refine g_nm ev767 ?_
                                                                                    obtain ⟨h768, hf⟩ := og_e hf
                                                                                    refine g_sld C hX hbl hbA h768 dL_law_1354 ?_
                                                                                    obtain ⟨v769, ev769, hf⟩ := ol_e hf
                                                                                    refine g_nm ev769 ?_
                                                                                    obtain ⟨r770, σ771, h772, hf⟩ := obp_e hf
                                                                                    refine g_callVi (As := [.int v769]) (rest := [.int r764]) C (a_98 ad cy _) rfl (c_X11_count l dC dI ad cy v769) h772 hM_L_178 cal_X11_count ⟨Nat.le_of_ble_eq_true rfl, Nat.le_of_ble_eq_true rfl⟩ ⟨rfl, rfl⟩ ⟨Nat.le_of_ble_eq_true rfl, Nat.le_of_ble_eq_true rfl⟩ rfl rfl (Nat.le_of_ble_eq_true rfl) dL_law_1355 ?_
                                                                                    rcases oi_e hf with ⟨c773, hf⟩ | ⟨c773, hf⟩
                                                                                    · refine g_icmp_eq_t (tgt := 1363) C dL_law_1358 (by decide) c773 ?_
                                                                                      obtain ⟨v774, ev774, hf⟩ := ol_e hf
                                                                                      refine g_iinc (j := 3) (w := 5) (lv2 := [(0, .ref b), (1, .ref (ad 0)), (2, .ref (ad 98)), (3, .int v774)]) C dL_law_1363 rfl (by decide) ev774 (by decide) [1, 2, 3, 0] rfl ?_
                                                                                      refine g_goto (tgt := 18) C dL_law_1366 (by decide) ?_
                                                                                      exact g_sub [0, 1, 2, 3] rfl (hs_18 σ771 v774 hf)
                                                                                    · refine g_icmp_eq_f (tgt := 1363) C dL_law_1358 (by decide) c773 ?_
                                                                                      refine g_iconst (v := 0) C dL_law_1361 (by decide) ?_
                                                                                      exact absurd (os_e hf).1 (by decide)
                                                                                  · skip
                                                                                    cases hf
def fL_h18 (xs : Nat → Int32) (L : Nat) : Nat → S0 → Int32 → Option (Int32 × S0)
  | 0 => fun _ _ => none
  | n + 1 => fun σ x3 => fL_b18 xs L (fL_h18 xs L n) σ x3
theorem fL_h18_ok {p : Program} {l : Launch} {e : Env} {s : State} {m : MethodId} {below : List Frame} {meth : Method} {c : Code} {dC : Nat → ClassId} {dI : Nat → Nat → Nat} {ad : Nat → Nat} {cy : Nat → ClassId} {z b L : Nat} {xs : Nat → Int32} (C : Cx p s m #[Value.ref b] meth c RL cL_law 4 (some .boolean) dC dI ad cy z) (hX : va_X b L xs s s.heap) (hbl : b < s.heap.size) (hbA : ¬ AW ad z b) (hlo : ∀ q, AW ad z q → s.heap.size ≤ q) {ρ : S0} : ∀ (n : Nat) (σ : S0) (x3 : Int32) (_hf : fL_h18 xs L n σ x3 = some (1, ρ)), Gw p l e room_1 s m #[Value.ref b] below meth c (lw_Z below #[Value.ref b] s) dC dI ad cy 4 z 111 2532 18 [(0, .ref b), (1, .ref (ad 0)), (2, .ref (ad 98)), (3, .int x3)] [] σ
  | 0, _, _, hf => by cases hf
  | n + 1, σ, x3, hf => fL_b18_ok C hX hbl hbA hlo (fL_h18 xs L n) (fL_h18_ok C hX hbl hbA hlo n) σ x3 hf
