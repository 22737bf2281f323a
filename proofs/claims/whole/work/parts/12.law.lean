/-! THE LAW, AS A FUNCTION OF ITS SCRIPT; its printed walk -/
abbrev mL_law : rM := (yL_law, cL_law, 4, ret)
def J_L_law_18 (L : Nat) (xs : Nat → Int32) (x1 : Nat) (x2 : Nat) : Nat → Int32 → rW → Option (Bool × rW)
  | 0, _, _ => none
  | f + 1, x3, w => rLet (nI L) fun v9 => if (v9 - 6) < x3 then some (true, w) else (sGet L xs x3).bind fun v11 => rLet (fun (w12 : rW) => (rLet (x3 + 6) fun v13 => J_L_law_18 L xs x1 x2 f v13 w12 : Option (Bool × rW))) fun K1264 => if (v11 &&& 63) = 0 then (sGet L xs (x3 + 1)).bind fun v15 => (sGet L xs (x3 + 2)).bind fun v16 => (sGet L xs (x3 + 3)).bind fun v17 => rB2 (J_X9_size x1 v15 v16 v17 w) fun v19 w20 => (sGet L xs (x3 + 1)).bind fun v21 => (sGet L xs (x3 + 2)).bind fun v22 => (sGet L xs (x3 + 3)).bind fun v23 => rB2 (J_X10_size_ x2 v21 v22 v23 w20) fun v25 w26 => if v19 = v25 then K1264 w26 else some (false, w26) else if (v11 &&& 63) = 1 then (sGet L xs (x3 + 1)).bind fun v29 => (sGet L xs (x3 + 2)).bind fun v30 => rB2 (J_X9_count x1 v29 v30 w) fun v32 w33 => (sGet L xs (x3 + 1)).bind fun v34 => (sGet L xs (x3 + 2)).bind fun v35 => rB2 (J_X10_count x2 v34 v35 w33) fun v37 w38 => if v32 = v37 then K1264 w38 else some (false, w38) else if (v11 &&& 63) = 2 then (sGet L xs (x3 + 1)).bind fun v41 => (sGet L xs (x3 + 2)).bind fun v42 => rB2 (J_X9_twist x1 v41 v42 w) fun v44 w45 => (sGet L xs (x3 + 1)).bind fun v46 => (sGet L xs (x3 + 2)).bind fun v47 => rB2 (J_X10_twist x2 v46 v47 w45) fun v49 w50 => if v44 = v49 then K1264 w50 else some (false, w50) else if (v11 &&& 63) = 3 then rB2 (J_X9_turn x1 w) fun v54 w55 => rB2 (J_X10_turn x2 w55) fun v57 w58 => if v54 = v57 then K1264 w58 else some (false, w58) else if (v11 &&& 63) = 4 then rB2 (J_X9_clear x1 w) fun v62 w63 => rB2 (J_X10_clear x2 w63) fun v65 w66 => if v62 = v65 then K1264 w66 else some (false, w66) else if (v11 &&& 63) = 5 then (sGet L xs (x3 + 1)).bind fun v69 => (sGet L xs (x3 + 2)).bind fun v70 => rB2 (J_X9_put x1 v69 v70 w) fun v72 w73 => (sGet L xs (x3 + 1)).bind fun v74 => (sGet L xs (x3 + 2)).bind fun v75 => rB2 (J_X10_put x2 v74 v75 w73) fun v77 w78 => if v72 = v77 then K1264 w78 else some (false, w78) else if (v11 &&& 63) = 6 then rB2 (J_X9_swap x1 w) fun v82 w83 => rB2 (J_X10_swap x2 w83) fun v85 w86 => if v82 = v85 then K1264 w86 else some (false, w86) else if (v11 &&& 63) = 7 then rB2 (J_X9_keep x1 w) fun v90 w91 => rB2 (J_X10_keep x2 w91) fun v93 w94 => if v90 = v93 then K1264 w94 else some (false, w94) else if (v11 &&& 63) = 8 then rB2 (J_X9_differ x1 w) fun v98 w99 => rB2 (J_X10_differ x2 w99) fun v101 w102 => if v98 = v101 then K1264 w102 else some (false, w102) else if (v11 &&& 63) = 9 then (sGet L xs (x3 + 1)).bind fun v105 => (sGet L xs (x3 + 2)).bind fun v106 => rB2 (J_X9_exchange x1 v105 v106 w) fun v108 w109 => (sGet L xs (x3 + 1)).bind fun v110 => (sGet L xs (x3 + 2)).bind fun v111 => rB2 (J_X10_exchange x2 v110 v111 w109) fun v113 w114 => if v108 = v113 then K1264 w114 else some (false, w114) else if (v11 &&& 63) = 10 then (sGet L xs (x3 + 1)).bind fun v117 => rB2 (J_X9_feed x1 v117 w) fun v119 w120 => (sGet L xs (x3 + 1)).bind fun v121 => rB2 (J_X10_feed x2 v121 w120) fun v123 w124 => if v119 = v123 then K1264 w124 else some (false, w124) else if (v11 &&& 63) = 11 then rB2 (J_X9_read x1 w) fun v128 w129 => rB2 (J_X10_read x2 w129) fun v131 w132 => if v128 = v131 then K1264 w132 else some (false, w132) else if (v11 &&& 63) = 12 then (sGet L xs (x3 + 1)).bind fun v135 => (J_X9_told x1 v135 w).bind fun v137 => (sGet L xs (x3 + 1)).bind fun v138 => (J_X10_told x2 v138 w).bind fun v140 => if v137 = v140 then K1264 w else some (false, w) else if (v11 &&& 63) = 13 then (sGet L xs (x3 + 1)).bind fun v143 => (J_X9_block x1 v143 w).bind fun v145 => (sGet L xs (x3 + 1)).bind fun v146 => (J_X10_block x2 v146 w).bind fun v148 => if v145 = v148 then K1264 w else some (false, w) else if (v11 &&& 63) = 14 then (sGet L xs (x3 + 1)).bind fun v151 => (J_X9_number x1 v151 w).bind fun v153 => (sGet L xs (x3 + 1)).bind fun v154 => (J_X10_number x2 v154 w).bind fun v156 => if v153 = v156 then K1264 w else some (false, w) else if (v11 &&& 63) = 15 then (sGet L xs (x3 + 1)).bind fun v159 => (sGet L xs (x3 + 2)).bind fun v160 => (J_X9_of x1 v159 v160 w).bind fun v162 => (sGet L xs (x3 + 1)).bind fun v163 => (sGet L xs (x3 + 2)).bind fun v164 => (J_X10_of x2 v163 v164 w).bind fun v166 => if v162 = v166 then K1264 w else some (false, w) else if (v11 &&& 63) = 16 then (sGet L xs (x3 + 1)).bind fun v169 => (J_X9_sum x1 v169 w).bind fun v171 => (sGet L xs (x3 + 1)).bind fun v172 => (J_X10_sum x2 v172 w).bind fun v174 => if v171 = v174 then K1264 w else some (false, w) else if (v11 &&& 63) = 17 then (J_X9_amiss x1 w).bind fun v178 => (J_X10_amiss x2 w).bind fun v180 => if v178 = v180 then K1264 w else some (false, w) else if (v11 &&& 63) = 18 then (sGet L xs (x3 + 1)).bind fun v183 => (J_X9_cover x1 v183 w).bind fun v185 => (sGet L xs (x3 + 1)).bind fun v186 => (J_X10_cover x2 v186 w).bind fun v188 => if v185 = v188 then K1264 w else some (false, w) else if (v11 &&& 63) = 19 then (sGet L xs (x3 + 1)).bind fun v191 => (J_X9_written x1 v191 w).bind fun v193 => (sGet L xs (x3 + 1)).bind fun v194 => rB2 (J_X10_written x2 v194 w) fun v196 w197 => if v193 = v196 then K1264 w197 else some (false, w197) else if (v11 &&& 63) = 20 then (sGet L xs (x3 + 1)).bind fun v200 => rB2 (J_X9_open x1 v200 w) fun v202 w203 => (sGet L xs (x3 + 1)).bind fun v204 => rB2 (J_X10_open x2 v204 w203) fun v206 w207 => if v202 = v206 then K1264 w207 else some (false, w207) else if (v11 &&& 63) = 21 then (sGet L xs (x3 + 1)).bind fun v210 => rB2 (J_X9_parted x1 v210 w) fun v212 w213 => (sGet L xs (x3 + 1)).bind fun v214 => rB2 (J_X10_parted x2 v214 w213) fun v216 w217 => if v212 = v216 then K1264 w217 else some (false, w217) else if (v11 &&& 63) = 22 then (sGet L xs (x3 + 1)).bind fun v220 => (sGet L xs (x3 + 2)).bind fun v221 => rB2 (J_X9_part x1 v220 v221 w) fun v223 w224 => (sGet L xs (x3 + 1)).bind fun v225 => (sGet L xs (x3 + 2)).bind fun v226 => rB2 (J_X10_part x2 v225 v226 w224) fun v228 w229 => if v223 = v228 then K1264 w229 else some (false, w229) else if (v11 &&& 63) = 23 then (sGet L xs (x3 + 1)).bind fun v232 => (sGet L xs (x3 + 2)).bind fun v233 => rB2 (J_X9_see x1 v232 v233 w) fun v235 w236 => (sGet L xs (x3 + 1)).bind fun v237 => (sGet L xs (x3 + 2)).bind fun v238 => rB2 (J_X10_see x2 v237 v238 w236) fun v240 w241 => if v235 = v240 then K1264 w241 else some (false, w241) else if (v11 &&& 63) = 24 then (sGet L xs (x3 + 1)).bind fun v244 => (sGet L xs (x3 + 2)).bind fun v245 => (J_X9_fits x1 v244 v245 w).bind fun v247 => (sGet L xs (x3 + 1)).bind fun v248 => (sGet L xs (x3 + 2)).bind fun v249 => rB2 (J_X10_fits x2 v248 v249 w) fun v251 w252 => if v247 = v251 then K1264 w252 else some (false, w252) else if (v11 &&& 63) = 25 then (sGet L xs (x3 + 1)).bind fun v255 => (sGet L xs (x3 + 2)).bind fun v256 => (J_X9_odds x1 v255 v256 w).bind fun v258 => (sGet L xs (x3 + 1)).bind fun v259 => (sGet L xs (x3 + 2)).bind fun v260 => (J_X10_odds x2 v259 v260 w).bind fun v262 => if (lg_cmp v258 v262) = 0 then K1264 w else some (false, w) else if (v11 &&& 63) = 26 then (sGet L xs (x3 + 1)).bind fun v265 => (J_X9_mean x1 v265 w).bind fun v267 => (sGet L xs (x3 + 1)).bind fun v268 => (J_X10_mean x2 v268 w).bind fun v270 => if (lg_cmp v267 v270) = 0 then K1264 w else some (false, w) else if (v11 &&& 63) = 27 then (sGet L xs (x3 + 1)).bind fun v273 => (sGet L xs (x3 + 2)).bind fun v274 => rB2 (J_X9_event x1 v273 v274 w) fun v276 w277 => (sGet L xs (x3 + 1)).bind fun v278 => (sGet L xs (x3 + 2)).bind fun v279 => rB2 (J_X10_event x2 v278 v279 w277) fun v281 w282 => if v276 = v281 then K1264 w282 else some (false, w282) else if (v11 &&& 63) = 28 then (sGet L xs (x3 + 1)).bind fun v285 => rB2 (J_X9_after x1 v285 w) fun v287 w288 => (sGet L xs (x3 + 1)).bind fun v289 => rB2 (J_X10_after x2 v289 w288) fun v291 w292 => if v287 = v291 then K1264 w292 else some (false, w292) else if (v11 &&& 63) = 29 then (sGet L xs (x3 + 1)).bind fun v295 => (sGet L xs (x3 + 2)).bind fun v296 => rB2 (J_X9_book x1 v295 v296 w) fun v298 w299 => (sGet L xs (x3 + 1)).bind fun v300 => (sGet L xs (x3 + 2)).bind fun v301 => rB2 (J_X10_book x2 v300 v301 w299) fun v303 w304 => if v298 = v303 then K1264 w304 else some (false, w304) else if (v11 &&& 63) = 30 then (J_X9_looked x1 w).bind fun v308 => (J_X10_looked x2 w).bind fun v310 => if v308 = v310 then K1264 w else some (false, w) else if (v11 &&& 63) = 31 then (sGet L xs (x3 + 1)).bind fun v313 => (sGet L xs (x3 + 2)).bind fun v314 => (J_X9_judge x1 v313 v314 w).bind fun v316 => (sGet L xs (x3 + 1)).bind fun v317 => (sGet L xs (x3 + 2)).bind fun v318 => (J_X10_judge x2 v317 v318 w).bind fun v320 => if v316 = v320 then K1264 w else some (false, w) else if (v11 &&& 63) = 32 then rB2 (J_X9_image x1 w) fun v324 w325 => rB2 (J_X10_image x2 w325) fun v327 w328 => if v324 = v327 then K1264 w328 else some (false, w328) else if (v11 &&& 63) = 33 then rB2 (J_X9_undo x1 w) fun v332 w333 => rB2 (J_X10_undo x2 w333) fun v335 w336 => if v332 = v335 then K1264 w336 else some (false, w336) else if (v11 &&& 63) = 34 then (sGet L xs (x3 + 1)).bind fun v339 => (J_X9_counted x1 v339 w).bind fun v341 => (sGet L xs (x3 + 1)).bind fun v342 => (J_X10_counted x2 v342 w).bind fun v344 => if v341 = v344 then K1264 w else some (false, w) else if (v11 &&& 63) = 35 then (sGet L xs (x3 + 1)).bind fun v347 => (sGet L xs (x3 + 2)).bind fun v348 => (sGet L xs (x3 + 3)).bind fun v349 => rB2 (J_X9_tape x1 v347 v348 v349 w) fun v351 w352 => (sGet L xs (x3 + 1)).bind fun v353 => (sGet L xs (x3 + 2)).bind fun v354 => (sGet L xs (x3 + 3)).bind fun v355 => rB2 (J_X10_tape x2 v353 v354 v355 w352) fun v357 w358 => if v351 = v357 then K1264 w358 else some (false, w358) else if (v11 &&& 63) = 36 then (sGet L xs (x3 + 1)).bind fun v361 => (sGet L xs (x3 + 2)).bind fun v362 => (sGet L xs (x3 + 3)).bind fun v363 => (sGet L xs (x3 + 4)).bind fun v364 => rB2 (J_X9_item x1 v361 v362 (((Int32.toInt64 v363) <<< (Int32.toInt64 32 &&& 63)) ||| ((Int32.toInt64 v364) &&& 4294967295)) w) fun v366 w367 => (sGet L xs (x3 + 1)).bind fun v368 => (sGet L xs (x3 + 2)).bind fun v369 => (sGet L xs (x3 + 3)).bind fun v370 => (sGet L xs (x3 + 4)).bind fun v371 => rB2 (J_X10_item x2 v368 v369 (((Int32.toInt64 v370) <<< (Int32.toInt64 32 &&& 63)) ||| ((Int32.toInt64 v371) &&& 4294967295)) w367) fun v373 w374 => if v366 = v373 then K1264 w374 else some (false, w374) else if (v11 &&& 63) = 37 then (sGet L xs (x3 + 1)).bind fun v377 => (sGet L xs (x3 + 2)).bind fun v378 => (J_X9_peek x1 v377 v378 w).bind fun v380 => (sGet L xs (x3 + 1)).bind fun v381 => (sGet L xs (x3 + 2)).bind fun v382 => (J_X10_peek x2 v381 v382 w).bind fun v384 => if (lg_cmp v380 v384) = 0 then K1264 w else some (false, w) else if (v11 &&& 63) = 38 then (sGet L xs (x3 + 1)).bind fun v387 => (sGet L xs (x3 + 2)).bind fun v388 => (sGet L xs (x3 + 3)).bind fun v389 => (sGet L xs (x3 + 4)).bind fun v390 => (sGet L xs (x3 + 5)).bind fun v391 => rB2 (J_X9_shift x1 v387 v388 v389 v390 v391 w) fun v393 w394 => (sGet L xs (x3 + 1)).bind fun v395 => (sGet L xs (x3 + 2)).bind fun v396 => (sGet L xs (x3 + 3)).bind fun v397 => (sGet L xs (x3 + 4)).bind fun v398 => (sGet L xs (x3 + 5)).bind fun v399 => rB2 (J_X10_shift x2 v395 v396 v397 v398 v399 w394) fun v401 w402 => if v393 = v401 then K1264 w402 else some (false, w402) else K1264 w
def J_L_law (L : Nat) (xs : Nat → Int32) (w : rW) : Option (Bool × rW) := rB2 (nO' w 9 [.null, .null, .int 0, .null, .null, .null, .null, .null, .null]) fun a1 w2 => (J_X9_init a1 w2).bind fun w4 => rB2 (nO' w4 10 [.int 0, .int 0, .int 0, .int 0, .null, .null, .null, .null, .null, .null, .null, .int 0, .null, .null, .int 0, .null, .null, .int 0, .null, .int 0, .int 0, .null, .null, .int 0, .null, .null, .null, .null, .null, .int 0, .null, .null, .null, .null, .int 0, .null, .null, .null, .int 0, .int 0, .int 0, .int 0]) fun a5 w6 => (J_X10_init a5 w6).bind fun w8 => J_L_law_18 L xs a1 a5 2000 0 w8
set_option maxRecDepth 20000 in
set_option maxHeartbeats 4000000 in
theorem E_L_law_18 (L : Nat) (xs : Nat → Int32) (hL : L < 2 ^ 31) {r0 : Bool} {w0 : rW}  (x1 : Nat) (x2 : Nat)   : ∀ (f : Nat) (x3 : Int32) (w : rW), J_L_law_18 L xs x1 x2 f x3 w = some (r0, w0) → rEvZ (rZl L xs) mL_law 46 0 0 18 [(0, .float 7000), (1, .ref x1), (2, .ref x2), (3, .int x3)] [] w (rIs (some (.int (bi r0))) w0) := by
  intro f
  induction f with
  | zero =>
    intro x3 w h
    exact absurd (show (none : Option (Bool × rW)) = some (r0, w0) from h) (by simp)
  | succ f ih =>
    intro x3 w h
    rw [J_L_law_18] at h
    refine rv_iload_n 3 dL_law_18 rfl ?_
    refine rv_aload_nT 0 dL_law_19 rfl ?_
    refine rv_slen hL dL_law_20 ?_; refine rv_letI h (fun v9 h => ?_)
    refine rv_bipush (v := 6) dL_law_21 (by decide) ?_
    refine rv_isub dL_law_23 ?_
    refine rv_icmp_gt 1270 dL_law_24 (by decide) (fun c10 => ?_) (fun c10 => ?_)
    · replace h := rIfT h c10
      refine rv_iconst (v := 1) dL_law_1270 (by decide) ?_
      exact rv_iret .boolean dL_law_1271 rfl (by decide) (rRetZw (x := 1) h rfl)
    · replace h := rIfF h c10
      refine rv_aload_nT 0 dL_law_27 rfl ?_
      refine rv_iload_n 3 dL_law_28 rfl ?_
      refine rv_sld dL_law_29 h (fun v11 h => ?_)
      refine rv_bipush (v := 63) dL_law_30 (by decide) ?_
      refine rv_iand dL_law_32 ?_
      obtain ⟨K1264, eK1264, h⟩ := rLetE h
      have hK1264 : ∀ (w : rW), K1264 w = some (r0, w0) → rEvZ (rZl L xs) mL_law 46 0 0 1264 [(0, .float 7000), (1, .ref x1), (2, .ref x2), (3, .int x3)] [] w (rIs (some (.int (bi r0))) w0) := by
        intro w12 h
        rw [eK1264] at h
        obtain ⟨v13, ev13, h⟩ := rLetE h
        refine rv_iinc (v := v13) (l2 := [(3, .int v13), (0, .float 7000), (1, .ref x1), (2, .ref x2)]) 3 dL_law_1264 rfl (by rw [ev13]; rfl) rfl rfl ?_
        clear ev13
        refine rv_goto 18 dL_law_1267 (by decide) ?_
        exact rv_sub [1, 2, 3, 0] rfl (ih v13 w12 h)
      clear eK1264
      refine rIf h (fun c14 h => ?_) (fun c14 h => ?_)
      · refine rv_tswIn 204 dL_law_33 c14 (by decide) (by decide) rfl (by decide) ?_
        refine rv_aload_n 1 dL_law_204 rfl ?_
        refine rv_aload_nT 0 dL_law_205 rfl ?_
        refine rv_iload_n 3 dL_law_206 rfl ?_
        refine rv_iconst (v := 1) dL_law_207 (by decide) ?_
        refine rv_iadd dL_law_208 ?_
        refine rv_sld dL_law_209 h (fun v15 h => ?_)
        refine rv_aload_nT 0 dL_law_210 rfl ?_
        refine rv_iload_n 3 dL_law_211 rfl ?_
        refine rv_iconst (v := 2) dL_law_212 (by decide) ?_
        refine rv_iadd dL_law_213 ?_
        refine rv_sld dL_law_214 h (fun v16 h => ?_)
        refine rv_aload_nT 0 dL_law_215 rfl ?_
        refine rv_iload_n 3 dL_law_216 rfl ?_
        refine rv_iconst (v := 3) dL_law_217 (by decide) ?_
        refine rv_iadd dL_law_218 ?_
        refine rv_sld dL_law_219 h (fun v17 h => ?_)
        obtain ⟨v19, w20, h18, h⟩ := rB2_some h
        refine rv_callVr (k3 := 0) (n3 := 0) (st2 := []) caX9_size cvX9_size ml_L_13 dL_law_220 rfl (E_X9_size h18).2 (E_X9_size h18).1 rfl rfl rfl rfl rfl ?_
        clear h18
        refine rv_aload_n 2 dL_law_223 rfl ?_
        refine rv_aload_nT 0 dL_law_224 rfl ?_
        refine rv_iload_n 3 dL_law_225 rfl ?_
        refine rv_iconst (v := 1) dL_law_226 (by decide) ?_
        refine rv_iadd dL_law_227 ?_
        refine rv_sld dL_law_228 h (fun v21 h => ?_)
        refine rv_aload_nT 0 dL_law_229 rfl ?_
        refine rv_iload_n 3 dL_law_230 rfl ?_
        refine rv_iconst (v := 2) dL_law_231 (by decide) ?_
        refine rv_iadd dL_law_232 ?_
        refine rv_sld dL_law_233 h (fun v22 h => ?_)
        refine rv_aload_nT 0 dL_law_234 rfl ?_
        refine rv_iload_n 3 dL_law_235 rfl ?_
        refine rv_iconst (v := 3) dL_law_236 (by decide) ?_
        refine rv_iadd dL_law_237 ?_
        refine rv_sld dL_law_238 h (fun v23 h => ?_)
        obtain ⟨v25, w26, h24, h⟩ := rB2_some h
        refine rv_callVr (k3 := 0) (n3 := 0) (st2 := [.int v19]) caX10_size_ cvX10_size_ ml_L_17 dL_law_239 rfl (E_X10_size_ h24).2 (E_X10_size_ h24).1 rfl rfl rfl rfl rfl ?_
        clear h24
        refine rv_icmp_eq 1264 dL_law_242 (by decide) (fun c27 => ?_) (fun c27 => ?_)
        · replace h := rIfT h c27
          exact rv_sub [0, 1, 2, 3] rfl (hK1264 w26 h)
        · replace h := rIfF h c27
          refine rv_iconst (v := 0) dL_law_245 (by decide) ?_
          exact rv_iret .boolean dL_law_246 rfl (by decide) (rRetZw (x := 0) h rfl)
      refine rIf h (fun c28 h => ?_) (fun c28 h => ?_)
      · refine rv_tswIn 247 dL_law_33 c28 (by decide) (by decide) rfl (by decide) ?_
        refine rv_aload_n 1 dL_law_247 rfl ?_
        refine rv_aload_nT 0 dL_law_248 rfl ?_
        refine rv_iload_n 3 dL_law_249 rfl ?_
        refine rv_iconst (v := 1) dL_law_250 (by decide) ?_
        refine rv_iadd dL_law_251 ?_
        refine rv_sld dL_law_252 h (fun v29 h => ?_)
        refine rv_aload_nT 0 dL_law_253 rfl ?_
        refine rv_iload_n 3 dL_law_254 rfl ?_
        refine rv_iconst (v := 2) dL_law_255 (by decide) ?_
        refine rv_iadd dL_law_256 ?_
        refine rv_sld dL_law_257 h (fun v30 h => ?_)
        obtain ⟨v32, w33, h31, h⟩ := rB2_some h
        refine rv_callVr (k3 := 0) (n3 := 0) (st2 := []) caX9_count cvX9_count ml_L_18 dL_law_258 rfl (E_X9_count h31).2 (E_X9_count h31).1 rfl rfl rfl rfl rfl ?_
        clear h31
        refine rv_aload_n 2 dL_law_261 rfl ?_
        refine rv_aload_nT 0 dL_law_262 rfl ?_
        refine rv_iload_n 3 dL_law_263 rfl ?_
        refine rv_iconst (v := 1) dL_law_264 (by decide) ?_
        refine rv_iadd dL_law_265 ?_
        refine rv_sld dL_law_266 h (fun v34 h => ?_)
        refine rv_aload_nT 0 dL_law_267 rfl ?_
        refine rv_iload_n 3 dL_law_268 rfl ?_
        refine rv_iconst (v := 2) dL_law_269 (by decide) ?_
        refine rv_iadd dL_law_270 ?_
        refine rv_sld dL_law_271 h (fun v35 h => ?_)
        obtain ⟨v37, w38, h36, h⟩ := rB2_some h
        refine rv_callVr (k3 := 0) (n3 := 0) (st2 := [.int v32]) caX10_count cvX10_count ml_L_22 dL_law_272 rfl (E_X10_count h36).2 (E_X10_count h36).1 rfl rfl rfl rfl rfl ?_
        clear h36
        refine rv_icmp_eq 1264 dL_law_275 (by decide) (fun c39 => ?_) (fun c39 => ?_)
        · replace h := rIfT h c39
          exact rv_sub [0, 1, 2, 3] rfl (hK1264 w38 h)
        · replace h := rIfF h c39
          refine rv_iconst (v := 0) dL_law_278 (by decide) ?_
          exact rv_iret .boolean dL_law_279 rfl (by decide) (rRetZw (x := 0) h rfl)
      refine rIf h (fun c40 h => ?_) (fun c40 h => ?_)
      · refine rv_tswIn 280 dL_law_33 c40 (by decide) (by decide) rfl (by decide) ?_
        refine rv_aload_n 1 dL_law_280 rfl ?_
        refine rv_aload_nT 0 dL_law_281 rfl ?_
        refine rv_iload_n 3 dL_law_282 rfl ?_
        refine rv_iconst (v := 1) dL_law_283 (by decide) ?_
        refine rv_iadd dL_law_284 ?_
        refine rv_sld dL_law_285 h (fun v41 h => ?_)
        refine rv_aload_nT 0 dL_law_286 rfl ?_
        refine rv_iload_n 3 dL_law_287 rfl ?_
        refine rv_iconst (v := 2) dL_law_288 (by decide) ?_
        refine rv_iadd dL_law_289 ?_
        refine rv_sld dL_law_290 h (fun v42 h => ?_)
        obtain ⟨v44, w45, h43, h⟩ := rB2_some h
        refine rv_callVr (k3 := 0) (n3 := 0) (st2 := []) caX9_twist cvX9_twist ml_L_23 dL_law_291 rfl (E_X9_twist h43).2 (E_X9_twist h43).1 rfl rfl rfl rfl rfl ?_
        clear h43
        refine rv_aload_n 2 dL_law_294 rfl ?_
        refine rv_aload_nT 0 dL_law_295 rfl ?_
        refine rv_iload_n 3 dL_law_296 rfl ?_
        refine rv_iconst (v := 1) dL_law_297 (by decide) ?_
        refine rv_iadd dL_law_298 ?_
        refine rv_sld dL_law_299 h (fun v46 h => ?_)
        refine rv_aload_nT 0 dL_law_300 rfl ?_
        refine rv_iload_n 3 dL_law_301 rfl ?_
        refine rv_iconst (v := 2) dL_law_302 (by decide) ?_
        refine rv_iadd dL_law_303 ?_
        refine rv_sld dL_law_304 h (fun v47 h => ?_)
        obtain ⟨v49, w50, h48, h⟩ := rB2_some h
        refine rv_callVr (k3 := 0) (n3 := 0) (st2 := [.int v44]) caX10_twist cvX10_twist ml_L_26 dL_law_305 rfl (E_X10_twist h48).2 (E_X10_twist h48).1 rfl rfl rfl rfl rfl ?_
        clear h48
        refine rv_icmp_eq 1264 dL_law_308 (by decide) (fun c51 => ?_) (fun c51 => ?_)
        · replace h := rIfT h c51
          exact rv_sub [0, 1, 2, 3] rfl (hK1264 w50 h)
        · replace h := rIfF h c51
          refine rv_iconst (v := 0) dL_law_311 (by decide) ?_
          exact rv_iret .boolean dL_law_312 rfl (by decide) (rRetZw (x := 0) h rfl)
      refine rIf h (fun c52 h => ?_) (fun c52 h => ?_)
      · refine rv_tswIn 313 dL_law_33 c52 (by decide) (by decide) rfl (by decide) ?_
        refine rv_aload_n 1 dL_law_313 rfl ?_
        obtain ⟨v54, w55, h53, h⟩ := rB2_some h
        refine rv_callVr (k3 := 0) (n3 := 0) (st2 := []) caX9_turn cvX9_turn ml_L_27 dL_law_314 rfl (E_X9_turn h53).2 (E_X9_turn h53).1 rfl rfl rfl rfl rfl ?_
        clear h53
        refine rv_aload_n 2 dL_law_317 rfl ?_
        obtain ⟨v57, w58, h56, h⟩ := rB2_some h
        refine rv_callVr (k3 := 0) (n3 := 0) (st2 := [.int v54]) caX10_turn cvX10_turn ml_L_31 dL_law_318 rfl (E_X10_turn h56).2 (E_X10_turn h56).1 rfl rfl rfl rfl rfl ?_
        clear h56
        refine rv_icmp_eq 1264 dL_law_321 (by decide) (fun c59 => ?_) (fun c59 => ?_)
        · replace h := rIfT h c59
          exact rv_sub [0, 1, 2, 3] rfl (hK1264 w58 h)
        · replace h := rIfF h c59
          refine rv_iconst (v := 0) dL_law_324 (by decide) ?_
          exact rv_iret .boolean dL_law_325 rfl (by decide) (rRetZw (x := 0) h rfl)
      refine rIf h (fun c60 h => ?_) (fun c60 h => ?_)
      · refine rv_tswIn 326 dL_law_33 c60 (by decide) (by decide) rfl (by decide) ?_
        refine rv_aload_n 1 dL_law_326 rfl ?_
        obtain ⟨v62, w63, h61, h⟩ := rB2_some h
        refine rv_callVr (k3 := 0) (n3 := 0) (st2 := []) caX9_clear cvX9_clear ml_L_32 dL_law_327 rfl (E_X9_clear h61).2 (E_X9_clear h61).1 rfl rfl rfl rfl rfl ?_
        clear h61
        refine rv_aload_n 2 dL_law_330 rfl ?_
        obtain ⟨v65, w66, h64, h⟩ := rB2_some h
        refine rv_callVr (k3 := 0) (n3 := 0) (st2 := [.int v62]) caX10_clear cvX10_clear ml_L_35 dL_law_331 rfl (E_X10_clear h64).2 (E_X10_clear h64).1 rfl rfl rfl rfl rfl ?_
        clear h64
        refine rv_icmp_eq 1264 dL_law_334 (by decide) (fun c67 => ?_) (fun c67 => ?_)
        · replace h := rIfT h c67
          exact rv_sub [0, 1, 2, 3] rfl (hK1264 w66 h)
        · replace h := rIfF h c67
          refine rv_iconst (v := 0) dL_law_337 (by decide) ?_
          exact rv_iret .boolean dL_law_338 rfl (by decide) (rRetZw (x := 0) h rfl)
      refine rIf h (fun c68 h => ?_) (fun c68 h => ?_)
      · refine rv_tswIn 339 dL_law_33 c68 (by decide) (by decide) rfl (by decide) ?_
        refine rv_aload_n 1 dL_law_339 rfl ?_
        refine rv_aload_nT 0 dL_law_340 rfl ?_
        refine rv_iload_n 3 dL_law_341 rfl ?_
        refine rv_iconst (v := 1) dL_law_342 (by decide) ?_
        refine rv_iadd dL_law_343 ?_
        refine rv_sld dL_law_344 h (fun v69 h => ?_)
        refine rv_aload_nT 0 dL_law_345 rfl ?_
        refine rv_iload_n 3 dL_law_346 rfl ?_
        refine rv_iconst (v := 2) dL_law_347 (by decide) ?_
        refine rv_iadd dL_law_348 ?_
        refine rv_sld dL_law_349 h (fun v70 h => ?_)
        obtain ⟨v72, w73, h71, h⟩ := rB2_some h
        refine rv_callVr (k3 := 0) (n3 := 0) (st2 := []) caX9_put cvX9_put ml_L_36 dL_law_350 rfl (E_X9_put h71).2 (E_X9_put h71).1 rfl rfl rfl rfl rfl ?_
        clear h71
        refine rv_aload_n 2 dL_law_353 rfl ?_
        refine rv_aload_nT 0 dL_law_354 rfl ?_
        refine rv_iload_n 3 dL_law_355 rfl ?_
        refine rv_iconst (v := 1) dL_law_356 (by decide) ?_
        refine rv_iadd dL_law_357 ?_
        refine rv_sld dL_law_358 h (fun v74 h => ?_)
        refine rv_aload_nT 0 dL_law_359 rfl ?_
        refine rv_iload_n 3 dL_law_360 rfl ?_
        refine rv_iconst (v := 2) dL_law_361 (by decide) ?_
        refine rv_iadd dL_law_362 ?_
        refine rv_sld dL_law_363 h (fun v75 h => ?_)
        obtain ⟨v77, w78, h76, h⟩ := rB2_some h
        refine rv_callVr (k3 := 0) (n3 := 0) (st2 := [.int v72]) caX10_put cvX10_put ml_L_39 dL_law_364 rfl (E_X10_put h76).2 (E_X10_put h76).1 rfl rfl rfl rfl rfl ?_
        clear h76
        refine rv_icmp_eq 1264 dL_law_367 (by decide) (fun c79 => ?_) (fun c79 => ?_)
        · replace h := rIfT h c79
          exact rv_sub [0, 1, 2, 3] rfl (hK1264 w78 h)
        · replace h := rIfF h c79
          refine rv_iconst (v := 0) dL_law_370 (by decide) ?_
          exact rv_iret .boolean dL_law_371 rfl (by decide) (rRetZw (x := 0) h rfl)
      refine rIf h (fun c80 h => ?_) (fun c80 h => ?_)
      · refine rv_tswIn 372 dL_law_33 c80 (by decide) (by decide) rfl (by decide) ?_
        refine rv_aload_n 1 dL_law_372 rfl ?_
        obtain ⟨v82, w83, h81, h⟩ := rB2_some h
        refine rv_callVr (k3 := 0) (n3 := 0) (st2 := []) caX9_swap cvX9_swap ml_L_40 dL_law_373 rfl (E_X9_swap h81).2 (E_X9_swap h81).1 rfl rfl rfl rfl rfl ?_
        clear h81
        refine rv_aload_n 2 dL_law_376 rfl ?_
        obtain ⟨v85, w86, h84, h⟩ := rB2_some h
        refine rv_callVr (k3 := 0) (n3 := 0) (st2 := [.int v82]) caX10_swap cvX10_swap ml_L_43 dL_law_377 rfl (E_X10_swap h84).2 (E_X10_swap h84).1 rfl rfl rfl rfl rfl ?_
        clear h84
        refine rv_icmp_eq 1264 dL_law_380 (by decide) (fun c87 => ?_) (fun c87 => ?_)
        · replace h := rIfT h c87
          exact rv_sub [0, 1, 2, 3] rfl (hK1264 w86 h)
        · replace h := rIfF h c87
          refine rv_iconst (v := 0) dL_law_383 (by decide) ?_
          exact rv_iret .boolean dL_law_384 rfl (by decide) (rRetZw (x := 0) h rfl)
      refine rIf h (fun c88 h => ?_) (fun c88 h => ?_)
      · refine rv_tswIn 385 dL_law_33 c88 (by decide) (by decide) rfl (by decide) ?_
        refine rv_aload_n 1 dL_law_385 rfl ?_
        obtain ⟨v90, w91, h89, h⟩ := rB2_some h
        refine rv_callVr (k3 := 0) (n3 := 0) (st2 := []) caX9_keep cvX9_keep ml_L_44 dL_law_386 rfl (E_X9_keep h89).2 (E_X9_keep h89).1 rfl rfl rfl rfl rfl ?_
        clear h89
        refine rv_aload_n 2 dL_law_389 rfl ?_
        obtain ⟨v93, w94, h92, h⟩ := rB2_some h
        refine rv_callVr (k3 := 0) (n3 := 0) (st2 := [.int v90]) caX10_keep cvX10_keep ml_L_47 dL_law_390 rfl (E_X10_keep h92).2 (E_X10_keep h92).1 rfl rfl rfl rfl rfl ?_
        clear h92
        refine rv_icmp_eq 1264 dL_law_393 (by decide) (fun c95 => ?_) (fun c95 => ?_)
        · replace h := rIfT h c95
          exact rv_sub [0, 1, 2, 3] rfl (hK1264 w94 h)
        · replace h := rIfF h c95
          refine rv_iconst (v := 0) dL_law_396 (by decide) ?_
          exact rv_iret .boolean dL_law_397 rfl (by decide) (rRetZw (x := 0) h rfl)
      refine rIf h (fun c96 h => ?_) (fun c96 h => ?_)
      · refine rv_tswIn 398 dL_law_33 c96 (by decide) (by decide) rfl (by decide) ?_
        refine rv_aload_n 1 dL_law_398 rfl ?_
        obtain ⟨v98, w99, h97, h⟩ := rB2_some h
        refine rv_callVr (k3 := 0) (n3 := 0) (st2 := []) caX9_differ cvX9_differ ml_L_48 dL_law_399 rfl (E_X9_differ h97).2 (E_X9_differ h97).1 rfl rfl rfl rfl rfl ?_
        clear h97
        refine rv_aload_n 2 dL_law_402 rfl ?_
        obtain ⟨v101, w102, h100, h⟩ := rB2_some h
        refine rv_callVr (k3 := 0) (n3 := 0) (st2 := [.int v98]) caX10_differ cvX10_differ ml_L_51 dL_law_403 rfl (E_X10_differ h100).2 (E_X10_differ h100).1 rfl rfl rfl rfl rfl ?_
        clear h100
        refine rv_icmp_eq 1264 dL_law_406 (by decide) (fun c103 => ?_) (fun c103 => ?_)
        · replace h := rIfT h c103
          exact rv_sub [0, 1, 2, 3] rfl (hK1264 w102 h)
        · replace h := rIfF h c103
          refine rv_iconst (v := 0) dL_law_409 (by decide) ?_
          exact rv_iret .boolean dL_law_410 rfl (by decide) (rRetZw (x := 0) h rfl)
      refine rIf h (fun c104 h => ?_) (fun c104 h => ?_)
      · refine rv_tswIn 411 dL_law_33 c104 (by decide) (by decide) rfl (by decide) ?_
        refine rv_aload_n 1 dL_law_411 rfl ?_
        refine rv_aload_nT 0 dL_law_412 rfl ?_
        refine rv_iload_n 3 dL_law_413 rfl ?_
        refine rv_iconst (v := 1) dL_law_414 (by decide) ?_
        refine rv_iadd dL_law_415 ?_
        refine rv_sld dL_law_416 h (fun v105 h => ?_)
        refine rv_aload_nT 0 dL_law_417 rfl ?_
        refine rv_iload_n 3 dL_law_418 rfl ?_
        refine rv_iconst (v := 2) dL_law_419 (by decide) ?_
        refine rv_iadd dL_law_420 ?_
        refine rv_sld dL_law_421 h (fun v106 h => ?_)
        obtain ⟨v108, w109, h107, h⟩ := rB2_some h
        refine rv_callVr (k3 := 0) (n3 := 0) (st2 := []) caX9_exchange cvX9_exchange ml_L_52 dL_law_422 rfl (E_X9_exchange h107).2 (E_X9_exchange h107).1 rfl rfl rfl rfl rfl ?_
        clear h107
        refine rv_aload_n 2 dL_law_425 rfl ?_
        refine rv_aload_nT 0 dL_law_426 rfl ?_
        refine rv_iload_n 3 dL_law_427 rfl ?_
        refine rv_iconst (v := 1) dL_law_428 (by decide) ?_
        refine rv_iadd dL_law_429 ?_
        refine rv_sld dL_law_430 h (fun v110 h => ?_)
        refine rv_aload_nT 0 dL_law_431 rfl ?_
        refine rv_iload_n 3 dL_law_432 rfl ?_
        refine rv_iconst (v := 2) dL_law_433 (by decide) ?_
        refine rv_iadd dL_law_434 ?_
        refine rv_sld dL_law_435 h (fun v111 h => ?_)
        obtain ⟨v113, w114, h112, h⟩ := rB2_some h
        refine rv_callVr (k3 := 0) (n3 := 0) (st2 := [.int v108]) caX10_exchange cvX10_exchange ml_L_55 dL_law_436 rfl (E_X10_exchange h112).2 (E_X10_exchange h112).1 rfl rfl rfl rfl rfl ?_
        clear h112
        refine rv_icmp_eq 1264 dL_law_439 (by decide) (fun c115 => ?_) (fun c115 => ?_)
        · replace h := rIfT h c115
          exact rv_sub [0, 1, 2, 3] rfl (hK1264 w114 h)
        · replace h := rIfF h c115
          refine rv_iconst (v := 0) dL_law_442 (by decide) ?_
          exact rv_iret .boolean dL_law_443 rfl (by decide) (rRetZw (x := 0) h rfl)
      refine rIf h (fun c116 h => ?_) (fun c116 h => ?_)
      · refine rv_tswIn 444 dL_law_33 c116 (by decide) (by decide) rfl (by decide) ?_
        refine rv_aload_n 1 dL_law_444 rfl ?_
        refine rv_aload_nT 0 dL_law_445 rfl ?_
        refine rv_iload_n 3 dL_law_446 rfl ?_
        refine rv_iconst (v := 1) dL_law_447 (by decide) ?_
        refine rv_iadd dL_law_448 ?_
        refine rv_sld dL_law_449 h (fun v117 h => ?_)
        obtain ⟨v119, w120, h118, h⟩ := rB2_some h
        refine rv_callVr (k3 := 0) (n3 := 0) (st2 := []) caX9_feed cvX9_feed ml_L_56 dL_law_450 rfl (E_X9_feed h118).2 (E_X9_feed h118).1 rfl rfl rfl rfl rfl ?_
        clear h118
        refine rv_aload_n 2 dL_law_453 rfl ?_
        refine rv_aload_nT 0 dL_law_454 rfl ?_
        refine rv_iload_n 3 dL_law_455 rfl ?_
        refine rv_iconst (v := 1) dL_law_456 (by decide) ?_
        refine rv_iadd dL_law_457 ?_
        refine rv_sld dL_law_458 h (fun v121 h => ?_)
        obtain ⟨v123, w124, h122, h⟩ := rB2_some h
        refine rv_callVr (k3 := 0) (n3 := 0) (st2 := [.int v119]) caX10_feed cvX10_feed ml_L_60 dL_law_459 rfl (E_X10_feed h122).2 (E_X10_feed h122).1 rfl rfl rfl rfl rfl ?_
        clear h122
        refine rv_icmp_eq 1264 dL_law_462 (by decide) (fun c125 => ?_) (fun c125 => ?_)
        · replace h := rIfT h c125
          exact rv_sub [0, 1, 2, 3] rfl (hK1264 w124 h)
        · replace h := rIfF h c125
          refine rv_iconst (v := 0) dL_law_465 (by decide) ?_
          exact rv_iret .boolean dL_law_466 rfl (by decide) (rRetZw (x := 0) h rfl)
      refine rIf h (fun c126 h => ?_) (fun c126 h => ?_)
      · refine rv_tswIn 467 dL_law_33 c126 (by decide) (by decide) rfl (by decide) ?_
        refine rv_aload_n 1 dL_law_467 rfl ?_
        obtain ⟨v128, w129, h127, h⟩ := rB2_some h
        refine rv_callVr (k3 := 0) (n3 := 0) (st2 := []) caX9_read cvX9_read ml_L_61 dL_law_468 rfl (E_X9_read h127).2 (E_X9_read h127).1 rfl rfl rfl rfl rfl ?_
        clear h127
        refine rv_aload_n 2 dL_law_471 rfl ?_
        obtain ⟨v131, w132, h130, h⟩ := rB2_some h
        refine rv_callVr (k3 := 0) (n3 := 0) (st2 := [.int v128]) caX10_read cvX10_read ml_L_64 dL_law_472 rfl (E_X10_read h130).2 (E_X10_read h130).1 rfl rfl rfl rfl rfl ?_
        clear h130
        refine rv_icmp_eq 1264 dL_law_475 (by decide) (fun c133 => ?_) (fun c133 => ?_)
        · replace h := rIfT h c133
          exact rv_sub [0, 1, 2, 3] rfl (hK1264 w132 h)
        · replace h := rIfF h c133
          refine rv_iconst (v := 0) dL_law_478 (by decide) ?_
          exact rv_iret .boolean dL_law_479 rfl (by decide) (rRetZw (x := 0) h rfl)
      refine rIf h (fun c134 h => ?_) (fun c134 h => ?_)
      · refine rv_tswIn 480 dL_law_33 c134 (by decide) (by decide) rfl (by decide) ?_
        refine rv_aload_n 1 dL_law_480 rfl ?_
        refine rv_aload_nT 0 dL_law_481 rfl ?_
        refine rv_iload_n 3 dL_law_482 rfl ?_
        refine rv_iconst (v := 1) dL_law_483 (by decide) ?_
        refine rv_iadd dL_law_484 ?_
        refine rv_sld dL_law_485 h (fun v135 h => ?_)
        obtain ⟨v137, h136, h⟩ := rBind h
        refine rv_callVr (k3 := 0) (n3 := 0) (st2 := []) caX9_told cvX9_told ml_L_65 dL_law_486 rfl (E_X9_told h136).2 (E_X9_told h136).1 rfl rfl rfl rfl rfl ?_
        clear h136
        refine rv_aload_n 2 dL_law_489 rfl ?_
        refine rv_aload_nT 0 dL_law_490 rfl ?_
        refine rv_iload_n 3 dL_law_491 rfl ?_
        refine rv_iconst (v := 1) dL_law_492 (by decide) ?_
        refine rv_iadd dL_law_493 ?_
        refine rv_sld dL_law_494 h (fun v138 h => ?_)
        obtain ⟨v140, h139, h⟩ := rBind h
        refine rv_callVr (k3 := 0) (n3 := 0) (st2 := [.int v137]) caX10_told cvX10_told ml_L_68 dL_law_495 rfl (E_X10_told h139).2 (E_X10_told h139).1 rfl rfl rfl rfl rfl ?_
        clear h139
        refine rv_icmp_eq 1264 dL_law_498 (by decide) (fun c141 => ?_) (fun c141 => ?_)
        · replace h := rIfT h c141
          exact rv_sub [0, 1, 2, 3] rfl (hK1264 w h)
        · replace h := rIfF h c141
          refine rv_iconst (v := 0) dL_law_501 (by decide) ?_
          exact rv_iret .boolean dL_law_502 rfl (by decide) (rRetZw (x := 0) h rfl)
      refine rIf h (fun c142 h => ?_) (fun c142 h => ?_)
      · refine rv_tswIn 503 dL_law_33 c142 (by decide) (by decide) rfl (by decide) ?_
        refine rv_aload_n 1 dL_law_503 rfl ?_
        refine rv_aload_nT 0 dL_law_504 rfl ?_
        refine rv_iload_n 3 dL_law_505 rfl ?_
        refine rv_iconst (v := 1) dL_law_506 (by decide) ?_
        refine rv_iadd dL_law_507 ?_
        refine rv_sld dL_law_508 h (fun v143 h => ?_)
        obtain ⟨v145, h144, h⟩ := rBind h
        refine rv_callVr (k3 := 0) (n3 := 0) (st2 := []) caX9_block cvX9_block ml_L_69 dL_law_509 rfl (E_X9_block h144).2 (E_X9_block h144).1 rfl rfl rfl rfl rfl ?_
        clear h144
        refine rv_aload_n 2 dL_law_512 rfl ?_
        refine rv_aload_nT 0 dL_law_513 rfl ?_
        refine rv_iload_n 3 dL_law_514 rfl ?_
        refine rv_iconst (v := 1) dL_law_515 (by decide) ?_
        refine rv_iadd dL_law_516 ?_
        refine rv_sld dL_law_517 h (fun v146 h => ?_)
        obtain ⟨v148, h147, h⟩ := rBind h
        refine rv_callVr (k3 := 0) (n3 := 0) (st2 := [.int v145]) caX10_block cvX10_block ml_L_72 dL_law_518 rfl (E_X10_block h147).2 (E_X10_block h147).1 rfl rfl rfl rfl rfl ?_
        clear h147
        refine rv_icmp_eq 1264 dL_law_521 (by decide) (fun c149 => ?_) (fun c149 => ?_)
        · replace h := rIfT h c149
          exact rv_sub [0, 1, 2, 3] rfl (hK1264 w h)
        · replace h := rIfF h c149
          refine rv_iconst (v := 0) dL_law_524 (by decide) ?_
          exact rv_iret .boolean dL_law_525 rfl (by decide) (rRetZw (x := 0) h rfl)
      refine rIf h (fun c150 h => ?_) (fun c150 h => ?_)
      · refine rv_tswIn 526 dL_law_33 c150 (by decide) (by decide) rfl (by decide) ?_
        refine rv_aload_n 1 dL_law_526 rfl ?_
        refine rv_aload_nT 0 dL_law_527 rfl ?_
        refine rv_iload_n 3 dL_law_528 rfl ?_
        refine rv_iconst (v := 1) dL_law_529 (by decide) ?_
        refine rv_iadd dL_law_530 ?_
        refine rv_sld dL_law_531 h (fun v151 h => ?_)
        obtain ⟨v153, h152, h⟩ := rBind h
        refine rv_callVr (k3 := 0) (n3 := 0) (st2 := []) caX9_number cvX9_number ml_L_73 dL_law_532 rfl (E_X9_number h152).2 (E_X9_number h152).1 rfl rfl rfl rfl rfl ?_
        clear h152
        refine rv_aload_n 2 dL_law_535 rfl ?_
        refine rv_aload_nT 0 dL_law_536 rfl ?_
        refine rv_iload_n 3 dL_law_537 rfl ?_
        refine rv_iconst (v := 1) dL_law_538 (by decide) ?_
        refine rv_iadd dL_law_539 ?_
        refine rv_sld dL_law_540 h (fun v154 h => ?_)
        obtain ⟨v156, h155, h⟩ := rBind h
        refine rv_callVr (k3 := 0) (n3 := 0) (st2 := [.int v153]) caX10_number cvX10_number ml_L_76 dL_law_541 rfl (E_X10_number h155).2 (E_X10_number h155).1 rfl rfl rfl rfl rfl ?_
        clear h155
        refine rv_icmp_eq 1264 dL_law_544 (by decide) (fun c157 => ?_) (fun c157 => ?_)
        · replace h := rIfT h c157
          exact rv_sub [0, 1, 2, 3] rfl (hK1264 w h)
        · replace h := rIfF h c157
          refine rv_iconst (v := 0) dL_law_547 (by decide) ?_
          exact rv_iret .boolean dL_law_548 rfl (by decide) (rRetZw (x := 0) h rfl)
      refine rIf h (fun c158 h => ?_) (fun c158 h => ?_)
      · refine rv_tswIn 549 dL_law_33 c158 (by decide) (by decide) rfl (by decide) ?_
        refine rv_aload_n 1 dL_law_549 rfl ?_
        refine rv_aload_nT 0 dL_law_550 rfl ?_
        refine rv_iload_n 3 dL_law_551 rfl ?_
        refine rv_iconst (v := 1) dL_law_552 (by decide) ?_
        refine rv_iadd dL_law_553 ?_
        refine rv_sld dL_law_554 h (fun v159 h => ?_)
        refine rv_aload_nT 0 dL_law_555 rfl ?_
        refine rv_iload_n 3 dL_law_556 rfl ?_
        refine rv_iconst (v := 2) dL_law_557 (by decide) ?_
        refine rv_iadd dL_law_558 ?_
        refine rv_sld dL_law_559 h (fun v160 h => ?_)
        obtain ⟨v162, h161, h⟩ := rBind h
        refine rv_callVr (k3 := 0) (n3 := 0) (st2 := []) caX9_of cvX9_of ml_L_77 dL_law_560 rfl (E_X9_of h161).2 (E_X9_of h161).1 rfl rfl rfl rfl rfl ?_
        clear h161
        refine rv_aload_n 2 dL_law_563 rfl ?_
        refine rv_aload_nT 0 dL_law_564 rfl ?_
        refine rv_iload_n 3 dL_law_565 rfl ?_
        refine rv_iconst (v := 1) dL_law_566 (by decide) ?_
        refine rv_iadd dL_law_567 ?_
        refine rv_sld dL_law_568 h (fun v163 h => ?_)
        refine rv_aload_nT 0 dL_law_569 rfl ?_
        refine rv_iload_n 3 dL_law_570 rfl ?_
        refine rv_iconst (v := 2) dL_law_571 (by decide) ?_
        refine rv_iadd dL_law_572 ?_
        refine rv_sld dL_law_573 h (fun v164 h => ?_)
        obtain ⟨v166, h165, h⟩ := rBind h
        refine rv_callVr (k3 := 0) (n3 := 0) (st2 := [.int v162]) caX10_of cvX10_of ml_L_80 dL_law_574 rfl (E_X10_of h165).2 (E_X10_of h165).1 rfl rfl rfl rfl rfl ?_
        clear h165
        refine rv_icmp_eq 1264 dL_law_577 (by decide) (fun c167 => ?_) (fun c167 => ?_)
        · replace h := rIfT h c167
          exact rv_sub [0, 1, 2, 3] rfl (hK1264 w h)
        · replace h := rIfF h c167
          refine rv_iconst (v := 0) dL_law_580 (by decide) ?_
          exact rv_iret .boolean dL_law_581 rfl (by decide) (rRetZw (x := 0) h rfl)
      refine rIf h (fun c168 h => ?_) (fun c168 h => ?_)
      · refine rv_tswIn 582 dL_law_33 c168 (by decide) (by decide) rfl (by decide) ?_
        refine rv_aload_n 1 dL_law_582 rfl ?_
        refine rv_aload_nT 0 dL_law_583 rfl ?_
        refine rv_iload_n 3 dL_law_584 rfl ?_
        refine rv_iconst (v := 1) dL_law_585 (by decide) ?_
        refine rv_iadd dL_law_586 ?_
        refine rv_sld dL_law_587 h (fun v169 h => ?_)
        obtain ⟨v171, h170, h⟩ := rBind h
        refine rv_callVr (k3 := 0) (n3 := 0) (st2 := []) caX9_sum cvX9_sum ml_L_81 dL_law_588 rfl (E_X9_sum h170).2 (E_X9_sum h170).1 rfl rfl rfl rfl rfl ?_
        clear h170
        refine rv_aload_n 2 dL_law_591 rfl ?_
        refine rv_aload_nT 0 dL_law_592 rfl ?_
        refine rv_iload_n 3 dL_law_593 rfl ?_
        refine rv_iconst (v := 1) dL_law_594 (by decide) ?_
        refine rv_iadd dL_law_595 ?_
        refine rv_sld dL_law_596 h (fun v172 h => ?_)
        obtain ⟨v174, h173, h⟩ := rBind h
        refine rv_callVr (k3 := 0) (n3 := 0) (st2 := [.int v171]) caX10_sum cvX10_sum ml_L_84 dL_law_597 rfl (E_X10_sum h173).2 (E_X10_sum h173).1 rfl rfl rfl rfl rfl ?_
        clear h173
        refine rv_icmp_eq 1264 dL_law_600 (by decide) (fun c175 => ?_) (fun c175 => ?_)
        · replace h := rIfT h c175
          exact rv_sub [0, 1, 2, 3] rfl (hK1264 w h)
        · replace h := rIfF h c175
          refine rv_iconst (v := 0) dL_law_603 (by decide) ?_
          exact rv_iret .boolean dL_law_604 rfl (by decide) (rRetZw (x := 0) h rfl)
      refine rIf h (fun c176 h => ?_) (fun c176 h => ?_)
      · refine rv_tswIn 605 dL_law_33 c176 (by decide) (by decide) rfl (by decide) ?_
        refine rv_aload_n 1 dL_law_605 rfl ?_
        obtain ⟨v178, h177, h⟩ := rBind h
        refine rv_callVr (k3 := 0) (n3 := 0) (st2 := []) caX9_amiss cvX9_amiss ml_L_85 dL_law_606 rfl (E_X9_amiss h177).2 (E_X9_amiss h177).1 rfl rfl rfl rfl rfl ?_
        clear h177
        refine rv_aload_n 2 dL_law_609 rfl ?_
        obtain ⟨v180, h179, h⟩ := rBind h
        refine rv_callVr (k3 := 0) (n3 := 0) (st2 := [.int v178]) caX10_amiss cvX10_amiss ml_L_88 dL_law_610 rfl (E_X10_amiss h179).2 (E_X10_amiss h179).1 rfl rfl rfl rfl rfl ?_
        clear h179
        refine rv_icmp_eq 1264 dL_law_613 (by decide) (fun c181 => ?_) (fun c181 => ?_)
        · replace h := rIfT h c181
          exact rv_sub [0, 1, 2, 3] rfl (hK1264 w h)
        · replace h := rIfF h c181
          refine rv_iconst (v := 0) dL_law_616 (by decide) ?_
          exact rv_iret .boolean dL_law_617 rfl (by decide) (rRetZw (x := 0) h rfl)
      refine rIf h (fun c182 h => ?_) (fun c182 h => ?_)
      · refine rv_tswIn 618 dL_law_33 c182 (by decide) (by decide) rfl (by decide) ?_
        refine rv_aload_n 1 dL_law_618 rfl ?_
        refine rv_aload_nT 0 dL_law_619 rfl ?_
        refine rv_iload_n 3 dL_law_620 rfl ?_
        refine rv_iconst (v := 1) dL_law_621 (by decide) ?_
        refine rv_iadd dL_law_622 ?_
        refine rv_sld dL_law_623 h (fun v183 h => ?_)
        obtain ⟨v185, h184, h⟩ := rBind h
        refine rv_callVr (k3 := 0) (n3 := 0) (st2 := []) caX9_cover cvX9_cover ml_L_89 dL_law_624 rfl (E_X9_cover h184).2 (E_X9_cover h184).1 rfl rfl rfl rfl rfl ?_
        clear h184
        refine rv_aload_n 2 dL_law_627 rfl ?_
        refine rv_aload_nT 0 dL_law_628 rfl ?_
        refine rv_iload_n 3 dL_law_629 rfl ?_
        refine rv_iconst (v := 1) dL_law_630 (by decide) ?_
        refine rv_iadd dL_law_631 ?_
        refine rv_sld dL_law_632 h (fun v186 h => ?_)
        obtain ⟨v188, h187, h⟩ := rBind h
        refine rv_callVr (k3 := 0) (n3 := 0) (st2 := [.int v185]) caX10_cover cvX10_cover ml_L_92 dL_law_633 rfl (E_X10_cover h187).2 (E_X10_cover h187).1 rfl rfl rfl rfl rfl ?_
        clear h187
        refine rv_icmp_eq 1264 dL_law_636 (by decide) (fun c189 => ?_) (fun c189 => ?_)
        · replace h := rIfT h c189
          exact rv_sub [0, 1, 2, 3] rfl (hK1264 w h)
        · replace h := rIfF h c189
          refine rv_iconst (v := 0) dL_law_639 (by decide) ?_
          exact rv_iret .boolean dL_law_640 rfl (by decide) (rRetZw (x := 0) h rfl)
      refine rIf h (fun c190 h => ?_) (fun c190 h => ?_)
      · refine rv_tswIn 641 dL_law_33 c190 (by decide) (by decide) rfl (by decide) ?_
        refine rv_aload_n 1 dL_law_641 rfl ?_
        refine rv_aload_nT 0 dL_law_642 rfl ?_
        refine rv_iload_n 3 dL_law_643 rfl ?_
        refine rv_iconst (v := 1) dL_law_644 (by decide) ?_
        refine rv_iadd dL_law_645 ?_
        refine rv_sld dL_law_646 h (fun v191 h => ?_)
        obtain ⟨v193, h192, h⟩ := rBind h
        refine rv_callVr (k3 := 0) (n3 := 0) (st2 := []) caX9_written cvX9_written ml_L_93 dL_law_647 rfl (E_X9_written h192).2 (E_X9_written h192).1 rfl rfl rfl rfl rfl ?_
        clear h192
        refine rv_aload_n 2 dL_law_650 rfl ?_
        refine rv_aload_nT 0 dL_law_651 rfl ?_
        refine rv_iload_n 3 dL_law_652 rfl ?_
        refine rv_iconst (v := 1) dL_law_653 (by decide) ?_
        refine rv_iadd dL_law_654 ?_
        refine rv_sld dL_law_655 h (fun v194 h => ?_)
        obtain ⟨v196, w197, h195, h⟩ := rB2_some h
        refine rv_callVr (k3 := 0) (n3 := 0) (st2 := [.int v193]) caX10_written cvX10_written ml_L_96 dL_law_656 rfl (E_X10_written h195).2 (E_X10_written h195).1 rfl rfl rfl rfl rfl ?_
        clear h195
        refine rv_icmp_eq 1264 dL_law_659 (by decide) (fun c198 => ?_) (fun c198 => ?_)
        · replace h := rIfT h c198
          exact rv_sub [0, 1, 2, 3] rfl (hK1264 w197 h)
        · replace h := rIfF h c198
          refine rv_iconst (v := 0) dL_law_662 (by decide) ?_
          exact rv_iret .boolean dL_law_663 rfl (by decide) (rRetZw (x := 0) h rfl)
      refine rIf h (fun c199 h => ?_) (fun c199 h => ?_)
      · refine rv_tswIn 664 dL_law_33 c199 (by decide) (by decide) rfl (by decide) ?_
        refine rv_aload_n 1 dL_law_664 rfl ?_
        refine rv_aload_nT 0 dL_law_665 rfl ?_
        refine rv_iload_n 3 dL_law_666 rfl ?_
        refine rv_iconst (v := 1) dL_law_667 (by decide) ?_
        refine rv_iadd dL_law_668 ?_
        refine rv_sld dL_law_669 h (fun v200 h => ?_)
        obtain ⟨v202, w203, h201, h⟩ := rB2_some h
        refine rv_callVr (k3 := 0) (n3 := 0) (st2 := []) caX9_open cvX9_open ml_L_97 dL_law_670 rfl (E_X9_open h201).2 (E_X9_open h201).1 rfl rfl rfl rfl rfl ?_
        clear h201
        refine rv_aload_n 2 dL_law_673 rfl ?_
        refine rv_aload_nT 0 dL_law_674 rfl ?_
        refine rv_iload_n 3 dL_law_675 rfl ?_
        refine rv_iconst (v := 1) dL_law_676 (by decide) ?_
        refine rv_iadd dL_law_677 ?_
        refine rv_sld dL_law_678 h (fun v204 h => ?_)
        obtain ⟨v206, w207, h205, h⟩ := rB2_some h
        refine rv_callVr (k3 := 0) (n3 := 0) (st2 := [.int v202]) caX10_open cvX10_open ml_L_100 dL_law_679 rfl (E_X10_open h205).2 (E_X10_open h205).1 rfl rfl rfl rfl rfl ?_
        clear h205
        refine rv_icmp_eq 1264 dL_law_682 (by decide) (fun c208 => ?_) (fun c208 => ?_)
        · replace h := rIfT h c208
          exact rv_sub [0, 1, 2, 3] rfl (hK1264 w207 h)
        · replace h := rIfF h c208
          refine rv_iconst (v := 0) dL_law_685 (by decide) ?_
          exact rv_iret .boolean dL_law_686 rfl (by decide) (rRetZw (x := 0) h rfl)
      refine rIf h (fun c209 h => ?_) (fun c209 h => ?_)
      · refine rv_tswIn 687 dL_law_33 c209 (by decide) (by decide) rfl (by decide) ?_
        refine rv_aload_n 1 dL_law_687 rfl ?_
        refine rv_aload_nT 0 dL_law_688 rfl ?_
        refine rv_iload_n 3 dL_law_689 rfl ?_
        refine rv_iconst (v := 1) dL_law_690 (by decide) ?_
        refine rv_iadd dL_law_691 ?_
        refine rv_sld dL_law_692 h (fun v210 h => ?_)
        obtain ⟨v212, w213, h211, h⟩ := rB2_some h
        refine rv_callVr (k3 := 0) (n3 := 0) (st2 := []) caX9_parted cvX9_parted ml_L_101 dL_law_693 rfl (E_X9_parted h211).2 (E_X9_parted h211).1 rfl rfl rfl rfl rfl ?_
        clear h211
        refine rv_aload_n 2 dL_law_696 rfl ?_
        refine rv_aload_nT 0 dL_law_697 rfl ?_
        refine rv_iload_n 3 dL_law_698 rfl ?_
        refine rv_iconst (v := 1) dL_law_699 (by decide) ?_
        refine rv_iadd dL_law_700 ?_
        refine rv_sld dL_law_701 h (fun v214 h => ?_)
        obtain ⟨v216, w217, h215, h⟩ := rB2_some h
        refine rv_callVr (k3 := 0) (n3 := 0) (st2 := [.int v212]) caX10_parted cvX10_parted ml_L_104 dL_law_702 rfl (E_X10_parted h215).2 (E_X10_parted h215).1 rfl rfl rfl rfl rfl ?_
        clear h215
        refine rv_icmp_eq 1264 dL_law_705 (by decide) (fun c218 => ?_) (fun c218 => ?_)
        · replace h := rIfT h c218
          exact rv_sub [0, 1, 2, 3] rfl (hK1264 w217 h)
        · replace h := rIfF h c218
          refine rv_iconst (v := 0) dL_law_708 (by decide) ?_
          exact rv_iret .boolean dL_law_709 rfl (by decide) (rRetZw (x := 0) h rfl)
      refine rIf h (fun c219 h => ?_) (fun c219 h => ?_)
      · refine rv_tswIn 710 dL_law_33 c219 (by decide) (by decide) rfl (by decide) ?_
        refine rv_aload_n 1 dL_law_710 rfl ?_
        refine rv_aload_nT 0 dL_law_711 rfl ?_
        refine rv_iload_n 3 dL_law_712 rfl ?_
        refine rv_iconst (v := 1) dL_law_713 (by decide) ?_
        refine rv_iadd dL_law_714 ?_
        refine rv_sld dL_law_715 h (fun v220 h => ?_)
        refine rv_aload_nT 0 dL_law_716 rfl ?_
        refine rv_iload_n 3 dL_law_717 rfl ?_
        refine rv_iconst (v := 2) dL_law_718 (by decide) ?_
        refine rv_iadd dL_law_719 ?_
        refine rv_sld dL_law_720 h (fun v221 h => ?_)
        obtain ⟨v223, w224, h222, h⟩ := rB2_some h
        refine rv_callVr (k3 := 0) (n3 := 0) (st2 := []) caX9_part cvX9_part ml_L_105 dL_law_721 rfl (E_X9_part h222).2 (E_X9_part h222).1 rfl rfl rfl rfl rfl ?_
        clear h222
        refine rv_aload_n 2 dL_law_724 rfl ?_
        refine rv_aload_nT 0 dL_law_725 rfl ?_
        refine rv_iload_n 3 dL_law_726 rfl ?_
        refine rv_iconst (v := 1) dL_law_727 (by decide) ?_
        refine rv_iadd dL_law_728 ?_
        refine rv_sld dL_law_729 h (fun v225 h => ?_)
        refine rv_aload_nT 0 dL_law_730 rfl ?_
        refine rv_iload_n 3 dL_law_731 rfl ?_
        refine rv_iconst (v := 2) dL_law_732 (by decide) ?_
        refine rv_iadd dL_law_733 ?_
        refine rv_sld dL_law_734 h (fun v226 h => ?_)
        obtain ⟨v228, w229, h227, h⟩ := rB2_some h
        refine rv_callVr (k3 := 0) (n3 := 0) (st2 := [.int v223]) caX10_part cvX10_part ml_L_108 dL_law_735 rfl (E_X10_part h227).2 (E_X10_part h227).1 rfl rfl rfl rfl rfl ?_
        clear h227
        refine rv_icmp_eq 1264 dL_law_738 (by decide) (fun c230 => ?_) (fun c230 => ?_)
        · replace h := rIfT h c230
          exact rv_sub [0, 1, 2, 3] rfl (hK1264 w229 h)
        · replace h := rIfF h c230
          refine rv_iconst (v := 0) dL_law_741 (by decide) ?_
          exact rv_iret .boolean dL_law_742 rfl (by decide) (rRetZw (x := 0) h rfl)
      refine rIf h (fun c231 h => ?_) (fun c231 h => ?_)
      · refine rv_tswIn 743 dL_law_33 c231 (by decide) (by decide) rfl (by decide) ?_
        refine rv_aload_n 1 dL_law_743 rfl ?_
        refine rv_aload_nT 0 dL_law_744 rfl ?_
        refine rv_iload_n 3 dL_law_745 rfl ?_
        refine rv_iconst (v := 1) dL_law_746 (by decide) ?_
        refine rv_iadd dL_law_747 ?_
        refine rv_sld dL_law_748 h (fun v232 h => ?_)
        refine rv_aload_nT 0 dL_law_749 rfl ?_
        refine rv_iload_n 3 dL_law_750 rfl ?_
        refine rv_iconst (v := 2) dL_law_751 (by decide) ?_
        refine rv_iadd dL_law_752 ?_
        refine rv_sld dL_law_753 h (fun v233 h => ?_)
        obtain ⟨v235, w236, h234, h⟩ := rB2_some h
        refine rv_callVr (k3 := 0) (n3 := 0) (st2 := []) caX9_see cvX9_see ml_L_109 dL_law_754 rfl (E_X9_see h234).2 (E_X9_see h234).1 rfl rfl rfl rfl rfl ?_
        clear h234
        refine rv_aload_n 2 dL_law_757 rfl ?_
        refine rv_aload_nT 0 dL_law_758 rfl ?_
        refine rv_iload_n 3 dL_law_759 rfl ?_
        refine rv_iconst (v := 1) dL_law_760 (by decide) ?_
        refine rv_iadd dL_law_761 ?_
        refine rv_sld dL_law_762 h (fun v237 h => ?_)
        refine rv_aload_nT 0 dL_law_763 rfl ?_
        refine rv_iload_n 3 dL_law_764 rfl ?_
        refine rv_iconst (v := 2) dL_law_765 (by decide) ?_
        refine rv_iadd dL_law_766 ?_
        refine rv_sld dL_law_767 h (fun v238 h => ?_)
        obtain ⟨v240, w241, h239, h⟩ := rB2_some h
        refine rv_callVr (k3 := 0) (n3 := 0) (st2 := [.int v235]) caX10_see cvX10_see ml_L_112 dL_law_768 rfl (E_X10_see h239).2 (E_X10_see h239).1 rfl rfl rfl rfl rfl ?_
        clear h239
        refine rv_icmp_eq 1264 dL_law_771 (by decide) (fun c242 => ?_) (fun c242 => ?_)
        · replace h := rIfT h c242
          exact rv_sub [0, 1, 2, 3] rfl (hK1264 w241 h)
        · replace h := rIfF h c242
          refine rv_iconst (v := 0) dL_law_774 (by decide) ?_
          exact rv_iret .boolean dL_law_775 rfl (by decide) (rRetZw (x := 0) h rfl)
      refine rIf h (fun c243 h => ?_) (fun c243 h => ?_)
      · refine rv_tswIn 776 dL_law_33 c243 (by decide) (by decide) rfl (by decide) ?_
        refine rv_aload_n 1 dL_law_776 rfl ?_
        refine rv_aload_nT 0 dL_law_777 rfl ?_
        refine rv_iload_n 3 dL_law_778 rfl ?_
        refine rv_iconst (v := 1) dL_law_779 (by decide) ?_
        refine rv_iadd dL_law_780 ?_
        refine rv_sld dL_law_781 h (fun v244 h => ?_)
        refine rv_aload_nT 0 dL_law_782 rfl ?_
        refine rv_iload_n 3 dL_law_783 rfl ?_
        refine rv_iconst (v := 2) dL_law_784 (by decide) ?_
        refine rv_iadd dL_law_785 ?_
        refine rv_sld dL_law_786 h (fun v245 h => ?_)
        obtain ⟨v247, h246, h⟩ := rBind h
        refine rv_callVr (k3 := 0) (n3 := 0) (st2 := []) caX9_fits cvX9_fits ml_L_113 dL_law_787 rfl (E_X9_fits h246).2 (E_X9_fits h246).1 rfl rfl rfl rfl rfl ?_
        clear h246
        refine rv_aload_n 2 dL_law_790 rfl ?_
        refine rv_aload_nT 0 dL_law_791 rfl ?_
        refine rv_iload_n 3 dL_law_792 rfl ?_
        refine rv_iconst (v := 1) dL_law_793 (by decide) ?_
        refine rv_iadd dL_law_794 ?_
        refine rv_sld dL_law_795 h (fun v248 h => ?_)
        refine rv_aload_nT 0 dL_law_796 rfl ?_
        refine rv_iload_n 3 dL_law_797 rfl ?_
        refine rv_iconst (v := 2) dL_law_798 (by decide) ?_
        refine rv_iadd dL_law_799 ?_
        refine rv_sld dL_law_800 h (fun v249 h => ?_)
        obtain ⟨v251, w252, h250, h⟩ := rB2_some h
        refine rv_callVr (k3 := 0) (n3 := 0) (st2 := [.int v247]) caX10_fits cvX10_fits ml_L_116 dL_law_801 rfl (E_X10_fits h250).2 (E_X10_fits h250).1 rfl rfl rfl rfl rfl ?_
        clear h250
        refine rv_icmp_eq 1264 dL_law_804 (by decide) (fun c253 => ?_) (fun c253 => ?_)
        · replace h := rIfT h c253
          exact rv_sub [0, 1, 2, 3] rfl (hK1264 w252 h)
        · replace h := rIfF h c253
          refine rv_iconst (v := 0) dL_law_807 (by decide) ?_
          exact rv_iret .boolean dL_law_808 rfl (by decide) (rRetZw (x := 0) h rfl)
      refine rIf h (fun c254 h => ?_) (fun c254 h => ?_)
      · refine rv_tswIn 809 dL_law_33 c254 (by decide) (by decide) rfl (by decide) ?_
        refine rv_aload_n 1 dL_law_809 rfl ?_
        refine rv_aload_nT 0 dL_law_810 rfl ?_
        refine rv_iload_n 3 dL_law_811 rfl ?_
        refine rv_iconst (v := 1) dL_law_812 (by decide) ?_
        refine rv_iadd dL_law_813 ?_
        refine rv_sld dL_law_814 h (fun v255 h => ?_)
        refine rv_aload_nT 0 dL_law_815 rfl ?_
        refine rv_iload_n 3 dL_law_816 rfl ?_
        refine rv_iconst (v := 2) dL_law_817 (by decide) ?_
        refine rv_iadd dL_law_818 ?_
        refine rv_sld dL_law_819 h (fun v256 h => ?_)
        obtain ⟨v258, h257, h⟩ := rBind h
        refine rv_callVr (k3 := 0) (n3 := 0) (st2 := []) caX9_odds cvX9_odds ml_L_117 dL_law_820 rfl (E_X9_odds h257).2 (E_X9_odds h257).1 rfl rfl rfl rfl rfl ?_
        clear h257
        refine rv_aload_n 2 dL_law_823 rfl ?_
        refine rv_aload_nT 0 dL_law_824 rfl ?_
        refine rv_iload_n 3 dL_law_825 rfl ?_
        refine rv_iconst (v := 1) dL_law_826 (by decide) ?_
        refine rv_iadd dL_law_827 ?_
        refine rv_sld dL_law_828 h (fun v259 h => ?_)
        refine rv_aload_nT 0 dL_law_829 rfl ?_
        refine rv_iload_n 3 dL_law_830 rfl ?_
        refine rv_iconst (v := 2) dL_law_831 (by decide) ?_
        refine rv_iadd dL_law_832 ?_
        refine rv_sld dL_law_833 h (fun v260 h => ?_)
        obtain ⟨v262, h261, h⟩ := rBind h
        refine rv_callVr (k3 := 0) (n3 := 0) (st2 := [.long v258]) caX10_odds cvX10_odds ml_L_121 dL_law_834 rfl (E_X10_odds h261).2 (E_X10_odds h261).1 rfl rfl rfl rfl rfl ?_
        clear h261
        refine rv_lcmp dL_law_837 ?_
        refine rv_if_eq 1264 dL_law_838 (by decide) (fun c263 => ?_) (fun c263 => ?_)
        · replace h := rIfT h c263
          exact rv_sub [0, 1, 2, 3] rfl (hK1264 w h)
        · replace h := rIfF h c263
          refine rv_iconst (v := 0) dL_law_841 (by decide) ?_
          exact rv_iret .boolean dL_law_842 rfl (by decide) (rRetZw (x := 0) h rfl)
      refine rIf h (fun c264 h => ?_) (fun c264 h => ?_)
      · refine rv_tswIn 843 dL_law_33 c264 (by decide) (by decide) rfl (by decide) ?_
        refine rv_aload_n 1 dL_law_843 rfl ?_
        refine rv_aload_nT 0 dL_law_844 rfl ?_
        refine rv_iload_n 3 dL_law_845 rfl ?_
        refine rv_iconst (v := 1) dL_law_846 (by decide) ?_
        refine rv_iadd dL_law_847 ?_
        refine rv_sld dL_law_848 h (fun v265 h => ?_)
        obtain ⟨v267, h266, h⟩ := rBind h
        refine rv_callVr (k3 := 0) (n3 := 0) (st2 := []) caX9_mean cvX9_mean ml_L_122 dL_law_849 rfl (E_X9_mean h266).2 (E_X9_mean h266).1 rfl rfl rfl rfl rfl ?_
        clear h266
        refine rv_aload_n 2 dL_law_852 rfl ?_
        refine rv_aload_nT 0 dL_law_853 rfl ?_
        refine rv_iload_n 3 dL_law_854 rfl ?_
        refine rv_iconst (v := 1) dL_law_855 (by decide) ?_
        refine rv_iadd dL_law_856 ?_
        refine rv_sld dL_law_857 h (fun v268 h => ?_)
        obtain ⟨v270, h269, h⟩ := rBind h
        refine rv_callVr (k3 := 0) (n3 := 0) (st2 := [.long v267]) caX10_mean cvX10_mean ml_L_126 dL_law_858 rfl (E_X10_mean h269).2 (E_X10_mean h269).1 rfl rfl rfl rfl rfl ?_
        clear h269
        refine rv_lcmp dL_law_861 ?_
        refine rv_if_eq 1264 dL_law_862 (by decide) (fun c271 => ?_) (fun c271 => ?_)
        · replace h := rIfT h c271
          exact rv_sub [0, 1, 2, 3] rfl (hK1264 w h)
        · replace h := rIfF h c271
          refine rv_iconst (v := 0) dL_law_865 (by decide) ?_
          exact rv_iret .boolean dL_law_866 rfl (by decide) (rRetZw (x := 0) h rfl)
      refine rIf h (fun c272 h => ?_) (fun c272 h => ?_)
      · refine rv_tswIn 867 dL_law_33 c272 (by decide) (by decide) rfl (by decide) ?_
        refine rv_aload_n 1 dL_law_867 rfl ?_
        refine rv_aload_nT 0 dL_law_868 rfl ?_
        refine rv_iload_n 3 dL_law_869 rfl ?_
        refine rv_iconst (v := 1) dL_law_870 (by decide) ?_
        refine rv_iadd dL_law_871 ?_
        refine rv_sld dL_law_872 h (fun v273 h => ?_)
        refine rv_aload_nT 0 dL_law_873 rfl ?_
        refine rv_iload_n 3 dL_law_874 rfl ?_
        refine rv_iconst (v := 2) dL_law_875 (by decide) ?_
        refine rv_iadd dL_law_876 ?_
        refine rv_sld dL_law_877 h (fun v274 h => ?_)
        obtain ⟨v276, w277, h275, h⟩ := rB2_some h
        refine rv_callVr (k3 := 0) (n3 := 0) (st2 := []) caX9_event cvX9_event ml_L_127 dL_law_878 rfl (E_X9_event h275).2 (E_X9_event h275).1 rfl rfl rfl rfl rfl ?_
        clear h275
        refine rv_aload_n 2 dL_law_881 rfl ?_
        refine rv_aload_nT 0 dL_law_882 rfl ?_
        refine rv_iload_n 3 dL_law_883 rfl ?_
        refine rv_iconst (v := 1) dL_law_884 (by decide) ?_
        refine rv_iadd dL_law_885 ?_
        refine rv_sld dL_law_886 h (fun v278 h => ?_)
        refine rv_aload_nT 0 dL_law_887 rfl ?_
        refine rv_iload_n 3 dL_law_888 rfl ?_
        refine rv_iconst (v := 2) dL_law_889 (by decide) ?_
        refine rv_iadd dL_law_890 ?_
        refine rv_sld dL_law_891 h (fun v279 h => ?_)
        obtain ⟨v281, w282, h280, h⟩ := rB2_some h
        refine rv_callVr (k3 := 0) (n3 := 0) (st2 := [.int v276]) caX10_event cvX10_event ml_L_130 dL_law_892 rfl (E_X10_event h280).2 (E_X10_event h280).1 rfl rfl rfl rfl rfl ?_
        clear h280
        refine rv_icmp_eq 1264 dL_law_895 (by decide) (fun c283 => ?_) (fun c283 => ?_)
        · replace h := rIfT h c283
          exact rv_sub [0, 1, 2, 3] rfl (hK1264 w282 h)
        · replace h := rIfF h c283
          refine rv_iconst (v := 0) dL_law_898 (by decide) ?_
          exact rv_iret .boolean dL_law_899 rfl (by decide) (rRetZw (x := 0) h rfl)
      refine rIf h (fun c284 h => ?_) (fun c284 h => ?_)
      · refine rv_tswIn 900 dL_law_33 c284 (by decide) (by decide) rfl (by decide) ?_
        refine rv_aload_n 1 dL_law_900 rfl ?_
        refine rv_aload_nT 0 dL_law_901 rfl ?_
        refine rv_iload_n 3 dL_law_902 rfl ?_
        refine rv_iconst (v := 1) dL_law_903 (by decide) ?_
        refine rv_iadd dL_law_904 ?_
        refine rv_sld dL_law_905 h (fun v285 h => ?_)
        obtain ⟨v287, w288, h286, h⟩ := rB2_some h
        refine rv_callVr (k3 := 0) (n3 := 0) (st2 := []) caX9_after cvX9_after ml_L_131 dL_law_906 rfl (E_X9_after h286).2 (E_X9_after h286).1 rfl rfl rfl rfl rfl ?_
        clear h286
        refine rv_aload_n 2 dL_law_909 rfl ?_
        refine rv_aload_nT 0 dL_law_910 rfl ?_
        refine rv_iload_n 3 dL_law_911 rfl ?_
        refine rv_iconst (v := 1) dL_law_912 (by decide) ?_
        refine rv_iadd dL_law_913 ?_
        refine rv_sld dL_law_914 h (fun v289 h => ?_)
        obtain ⟨v291, w292, h290, h⟩ := rB2_some h
        refine rv_callVr (k3 := 0) (n3 := 0) (st2 := [.int v287]) caX10_after cvX10_after ml_L_134 dL_law_915 rfl (E_X10_after h290).2 (E_X10_after h290).1 rfl rfl rfl rfl rfl ?_
        clear h290
        refine rv_icmp_eq 1264 dL_law_918 (by decide) (fun c293 => ?_) (fun c293 => ?_)
        · replace h := rIfT h c293
          exact rv_sub [0, 1, 2, 3] rfl (hK1264 w292 h)
        · replace h := rIfF h c293
          refine rv_iconst (v := 0) dL_law_921 (by decide) ?_
          exact rv_iret .boolean dL_law_922 rfl (by decide) (rRetZw (x := 0) h rfl)
      refine rIf h (fun c294 h => ?_) (fun c294 h => ?_)
      · refine rv_tswIn 923 dL_law_33 c294 (by decide) (by decide) rfl (by decide) ?_
        refine rv_aload_n 1 dL_law_923 rfl ?_
        refine rv_aload_nT 0 dL_law_924 rfl ?_
        refine rv_iload_n 3 dL_law_925 rfl ?_
        refine rv_iconst (v := 1) dL_law_926 (by decide) ?_
        refine rv_iadd dL_law_927 ?_
        refine rv_sld dL_law_928 h (fun v295 h => ?_)
        refine rv_aload_nT 0 dL_law_929 rfl ?_
        refine rv_iload_n 3 dL_law_930 rfl ?_
        refine rv_iconst (v := 2) dL_law_931 (by decide) ?_
        refine rv_iadd dL_law_932 ?_
        refine rv_sld dL_law_933 h (fun v296 h => ?_)
        obtain ⟨v298, w299, h297, h⟩ := rB2_some h
        refine rv_callVr (k3 := 0) (n3 := 0) (st2 := []) caX9_book cvX9_book ml_L_135 dL_law_934 rfl (E_X9_book h297).2 (E_X9_book h297).1 rfl rfl rfl rfl rfl ?_
        clear h297
        refine rv_aload_n 2 dL_law_937 rfl ?_
        refine rv_aload_nT 0 dL_law_938 rfl ?_
        refine rv_iload_n 3 dL_law_939 rfl ?_
        refine rv_iconst (v := 1) dL_law_940 (by decide) ?_
        refine rv_iadd dL_law_941 ?_
        refine rv_sld dL_law_942 h (fun v300 h => ?_)
        refine rv_aload_nT 0 dL_law_943 rfl ?_
        refine rv_iload_n 3 dL_law_944 rfl ?_
        refine rv_iconst (v := 2) dL_law_945 (by decide) ?_
        refine rv_iadd dL_law_946 ?_
        refine rv_sld dL_law_947 h (fun v301 h => ?_)
        obtain ⟨v303, w304, h302, h⟩ := rB2_some h
        refine rv_callVr (k3 := 0) (n3 := 0) (st2 := [.int v298]) caX10_book cvX10_book ml_L_138 dL_law_948 rfl (E_X10_book h302).2 (E_X10_book h302).1 rfl rfl rfl rfl rfl ?_
        clear h302
        refine rv_icmp_eq 1264 dL_law_951 (by decide) (fun c305 => ?_) (fun c305 => ?_)
        · replace h := rIfT h c305
          exact rv_sub [0, 1, 2, 3] rfl (hK1264 w304 h)
        · replace h := rIfF h c305
          refine rv_iconst (v := 0) dL_law_954 (by decide) ?_
          exact rv_iret .boolean dL_law_955 rfl (by decide) (rRetZw (x := 0) h rfl)
      refine rIf h (fun c306 h => ?_) (fun c306 h => ?_)
      · refine rv_tswIn 956 dL_law_33 c306 (by decide) (by decide) rfl (by decide) ?_
        refine rv_aload_n 1 dL_law_956 rfl ?_
        obtain ⟨v308, h307, h⟩ := rBind h
        refine rv_callVr (k3 := 0) (n3 := 0) (st2 := []) caX9_looked cvX9_looked ml_L_139 dL_law_957 rfl (E_X9_looked h307).2 (E_X9_looked h307).1 rfl rfl rfl rfl rfl ?_
        clear h307
        refine rv_aload_n 2 dL_law_960 rfl ?_
        obtain ⟨v310, h309, h⟩ := rBind h
        refine rv_callVr (k3 := 0) (n3 := 0) (st2 := [.int v308]) caX10_looked cvX10_looked ml_L_142 dL_law_961 rfl (E_X10_looked h309).2 (E_X10_looked h309).1 rfl rfl rfl rfl rfl ?_
        clear h309
        refine rv_icmp_eq 1264 dL_law_964 (by decide) (fun c311 => ?_) (fun c311 => ?_)
        · replace h := rIfT h c311
          exact rv_sub [0, 1, 2, 3] rfl (hK1264 w h)
        · replace h := rIfF h c311
          refine rv_iconst (v := 0) dL_law_967 (by decide) ?_
          exact rv_iret .boolean dL_law_968 rfl (by decide) (rRetZw (x := 0) h rfl)
      refine rIf h (fun c312 h => ?_) (fun c312 h => ?_)
      · refine rv_tswIn 969 dL_law_33 c312 (by decide) (by decide) rfl (by decide) ?_
        refine rv_aload_n 1 dL_law_969 rfl ?_
        refine rv_aload_nT 0 dL_law_970 rfl ?_
        refine rv_iload_n 3 dL_law_971 rfl ?_
        refine rv_iconst (v := 1) dL_law_972 (by decide) ?_
        refine rv_iadd dL_law_973 ?_
        refine rv_sld dL_law_974 h (fun v313 h => ?_)
        refine rv_aload_nT 0 dL_law_975 rfl ?_
        refine rv_iload_n 3 dL_law_976 rfl ?_
        refine rv_iconst (v := 2) dL_law_977 (by decide) ?_
        refine rv_iadd dL_law_978 ?_
        refine rv_sld dL_law_979 h (fun v314 h => ?_)
        obtain ⟨v316, h315, h⟩ := rBind h
        refine rv_callVr (k3 := 0) (n3 := 0) (st2 := []) caX9_judge cvX9_judge ml_L_143 dL_law_980 rfl (E_X9_judge h315).2 (E_X9_judge h315).1 rfl rfl rfl rfl rfl ?_
        clear h315
        refine rv_aload_n 2 dL_law_983 rfl ?_
        refine rv_aload_nT 0 dL_law_984 rfl ?_
        refine rv_iload_n 3 dL_law_985 rfl ?_
        refine rv_iconst (v := 1) dL_law_986 (by decide) ?_
        refine rv_iadd dL_law_987 ?_
        refine rv_sld dL_law_988 h (fun v317 h => ?_)
        refine rv_aload_nT 0 dL_law_989 rfl ?_
        refine rv_iload_n 3 dL_law_990 rfl ?_
        refine rv_iconst (v := 2) dL_law_991 (by decide) ?_
        refine rv_iadd dL_law_992 ?_
        refine rv_sld dL_law_993 h (fun v318 h => ?_)
        obtain ⟨v320, h319, h⟩ := rBind h
        refine rv_callVr (k3 := 0) (n3 := 0) (st2 := [.int v316]) caX10_judge cvX10_judge ml_L_146 dL_law_994 rfl (E_X10_judge h319).2 (E_X10_judge h319).1 rfl rfl rfl rfl rfl ?_
        clear h319
        refine rv_icmp_eq 1264 dL_law_997 (by decide) (fun c321 => ?_) (fun c321 => ?_)
        · replace h := rIfT h c321
          exact rv_sub [0, 1, 2, 3] rfl (hK1264 w h)
        · replace h := rIfF h c321
          refine rv_iconst (v := 0) dL_law_1000 (by decide) ?_
          exact rv_iret .boolean dL_law_1001 rfl (by decide) (rRetZw (x := 0) h rfl)
      refine rIf h (fun c322 h => ?_) (fun c322 h => ?_)
      · refine rv_tswIn 1002 dL_law_33 c322 (by decide) (by decide) rfl (by decide) ?_
        refine rv_aload_n 1 dL_law_1002 rfl ?_
        obtain ⟨v324, w325, h323, h⟩ := rB2_some h
        refine rv_callVr (k3 := 0) (n3 := 0) (st2 := []) caX9_image cvX9_image ml_L_147 dL_law_1003 rfl (E_X9_image h323).2 (E_X9_image h323).1 rfl rfl rfl rfl rfl ?_
        clear h323
        refine rv_aload_n 2 dL_law_1006 rfl ?_
        obtain ⟨v327, w328, h326, h⟩ := rB2_some h
        refine rv_callVr (k3 := 0) (n3 := 0) (st2 := [.int v324]) caX10_image cvX10_image ml_L_150 dL_law_1007 rfl (E_X10_image h326).2 (E_X10_image h326).1 rfl rfl rfl rfl rfl ?_
        clear h326
        refine rv_icmp_eq 1264 dL_law_1010 (by decide) (fun c329 => ?_) (fun c329 => ?_)
        · replace h := rIfT h c329
          exact rv_sub [0, 1, 2, 3] rfl (hK1264 w328 h)
        · replace h := rIfF h c329
          refine rv_iconst (v := 0) dL_law_1013 (by decide) ?_
          exact rv_iret .boolean dL_law_1014 rfl (by decide) (rRetZw (x := 0) h rfl)
      refine rIf h (fun c330 h => ?_) (fun c330 h => ?_)
      · refine rv_tswIn 1015 dL_law_33 c330 (by decide) (by decide) rfl (by decide) ?_
        refine rv_aload_n 1 dL_law_1015 rfl ?_
        obtain ⟨v332, w333, h331, h⟩ := rB2_some h
        refine rv_callVr (k3 := 0) (n3 := 0) (st2 := []) caX9_undo cvX9_undo ml_L_151 dL_law_1016 rfl (E_X9_undo h331).2 (E_X9_undo h331).1 rfl rfl rfl rfl rfl ?_
        clear h331
        refine rv_aload_n 2 dL_law_1019 rfl ?_
        obtain ⟨v335, w336, h334, h⟩ := rB2_some h
        refine rv_callVr (k3 := 0) (n3 := 0) (st2 := [.int v332]) caX10_undo cvX10_undo ml_L_154 dL_law_1020 rfl (E_X10_undo h334).2 (E_X10_undo h334).1 rfl rfl rfl rfl rfl ?_
        clear h334
        refine rv_icmp_eq 1264 dL_law_1023 (by decide) (fun c337 => ?_) (fun c337 => ?_)
        · replace h := rIfT h c337
          exact rv_sub [0, 1, 2, 3] rfl (hK1264 w336 h)
        · replace h := rIfF h c337
          refine rv_iconst (v := 0) dL_law_1026 (by decide) ?_
          exact rv_iret .boolean dL_law_1027 rfl (by decide) (rRetZw (x := 0) h rfl)
      refine rIf h (fun c338 h => ?_) (fun c338 h => ?_)
      · refine rv_tswIn 1028 dL_law_33 c338 (by decide) (by decide) rfl (by decide) ?_
        refine rv_aload_n 1 dL_law_1028 rfl ?_
        refine rv_aload_nT 0 dL_law_1029 rfl ?_
        refine rv_iload_n 3 dL_law_1030 rfl ?_
        refine rv_iconst (v := 1) dL_law_1031 (by decide) ?_
        refine rv_iadd dL_law_1032 ?_
        refine rv_sld dL_law_1033 h (fun v339 h => ?_)
        obtain ⟨v341, h340, h⟩ := rBind h
        refine rv_callVr (k3 := 0) (n3 := 0) (st2 := []) caX9_counted cvX9_counted ml_L_155 dL_law_1034 rfl (E_X9_counted h340).2 (E_X9_counted h340).1 rfl rfl rfl rfl rfl ?_
        clear h340
        refine rv_aload_n 2 dL_law_1037 rfl ?_
        refine rv_aload_nT 0 dL_law_1038 rfl ?_
        refine rv_iload_n 3 dL_law_1039 rfl ?_
        refine rv_iconst (v := 1) dL_law_1040 (by decide) ?_
        refine rv_iadd dL_law_1041 ?_
        refine rv_sld dL_law_1042 h (fun v342 h => ?_)
        obtain ⟨v344, h343, h⟩ := rBind h
        refine rv_callVr (k3 := 0) (n3 := 0) (st2 := [.int v341]) caX10_counted cvX10_counted ml_L_158 dL_law_1043 rfl (E_X10_counted h343).2 (E_X10_counted h343).1 rfl rfl rfl rfl rfl ?_
        clear h343
        refine rv_icmp_eq 1264 dL_law_1046 (by decide) (fun c345 => ?_) (fun c345 => ?_)
        · replace h := rIfT h c345
          exact rv_sub [0, 1, 2, 3] rfl (hK1264 w h)
        · replace h := rIfF h c345
          refine rv_iconst (v := 0) dL_law_1049 (by decide) ?_
          exact rv_iret .boolean dL_law_1050 rfl (by decide) (rRetZw (x := 0) h rfl)
      refine rIf h (fun c346 h => ?_) (fun c346 h => ?_)
      · refine rv_tswIn 1051 dL_law_33 c346 (by decide) (by decide) rfl (by decide) ?_
        refine rv_aload_n 1 dL_law_1051 rfl ?_
        refine rv_aload_nT 0 dL_law_1052 rfl ?_
        refine rv_iload_n 3 dL_law_1053 rfl ?_
        refine rv_iconst (v := 1) dL_law_1054 (by decide) ?_
        refine rv_iadd dL_law_1055 ?_
        refine rv_sld dL_law_1056 h (fun v347 h => ?_)
        refine rv_aload_nT 0 dL_law_1057 rfl ?_
        refine rv_iload_n 3 dL_law_1058 rfl ?_
        refine rv_iconst (v := 2) dL_law_1059 (by decide) ?_
        refine rv_iadd dL_law_1060 ?_
        refine rv_sld dL_law_1061 h (fun v348 h => ?_)
        refine rv_aload_nT 0 dL_law_1062 rfl ?_
        refine rv_iload_n 3 dL_law_1063 rfl ?_
        refine rv_iconst (v := 3) dL_law_1064 (by decide) ?_
        refine rv_iadd dL_law_1065 ?_
        refine rv_sld dL_law_1066 h (fun v349 h => ?_)
        obtain ⟨v351, w352, h350, h⟩ := rB2_some h
        refine rv_callVr (k3 := 0) (n3 := 0) (st2 := []) caX9_tape cvX9_tape ml_L_159 dL_law_1067 rfl (E_X9_tape h350).2 (E_X9_tape h350).1 rfl rfl rfl rfl rfl ?_
        clear h350
        refine rv_aload_n 2 dL_law_1070 rfl ?_
        refine rv_aload_nT 0 dL_law_1071 rfl ?_
        refine rv_iload_n 3 dL_law_1072 rfl ?_
        refine rv_iconst (v := 1) dL_law_1073 (by decide) ?_
        refine rv_iadd dL_law_1074 ?_
        refine rv_sld dL_law_1075 h (fun v353 h => ?_)
        refine rv_aload_nT 0 dL_law_1076 rfl ?_
        refine rv_iload_n 3 dL_law_1077 rfl ?_
        refine rv_iconst (v := 2) dL_law_1078 (by decide) ?_
        refine rv_iadd dL_law_1079 ?_
        refine rv_sld dL_law_1080 h (fun v354 h => ?_)
        refine rv_aload_nT 0 dL_law_1081 rfl ?_
        refine rv_iload_n 3 dL_law_1082 rfl ?_
        refine rv_iconst (v := 3) dL_law_1083 (by decide) ?_
        refine rv_iadd dL_law_1084 ?_
        refine rv_sld dL_law_1085 h (fun v355 h => ?_)
        obtain ⟨v357, w358, h356, h⟩ := rB2_some h
        refine rv_callVr (k3 := 0) (n3 := 0) (st2 := [.int v351]) caX10_tape cvX10_tape ml_L_162 dL_law_1086 rfl (E_X10_tape h356).2 (E_X10_tape h356).1 rfl rfl rfl rfl rfl ?_
        clear h356
        refine rv_icmp_eq 1264 dL_law_1089 (by decide) (fun c359 => ?_) (fun c359 => ?_)
        · replace h := rIfT h c359
          exact rv_sub [0, 1, 2, 3] rfl (hK1264 w358 h)
        · replace h := rIfF h c359
          refine rv_iconst (v := 0) dL_law_1092 (by decide) ?_
          exact rv_iret .boolean dL_law_1093 rfl (by decide) (rRetZw (x := 0) h rfl)
      refine rIf h (fun c360 h => ?_) (fun c360 h => ?_)
      · refine rv_tswIn 1094 dL_law_33 c360 (by decide) (by decide) rfl (by decide) ?_
        refine rv_aload_n 1 dL_law_1094 rfl ?_
        refine rv_aload_nT 0 dL_law_1095 rfl ?_
        refine rv_iload_n 3 dL_law_1096 rfl ?_
        refine rv_iconst (v := 1) dL_law_1097 (by decide) ?_
        refine rv_iadd dL_law_1098 ?_
        refine rv_sld dL_law_1099 h (fun v361 h => ?_)
        refine rv_aload_nT 0 dL_law_1100 rfl ?_
        refine rv_iload_n 3 dL_law_1101 rfl ?_
        refine rv_iconst (v := 2) dL_law_1102 (by decide) ?_
        refine rv_iadd dL_law_1103 ?_
        refine rv_sld dL_law_1104 h (fun v362 h => ?_)
        refine rv_aload_nT 0 dL_law_1105 rfl ?_
        refine rv_iload_n 3 dL_law_1106 rfl ?_
        refine rv_iconst (v := 3) dL_law_1107 (by decide) ?_
        refine rv_iadd dL_law_1108 ?_
        refine rv_sld dL_law_1109 h (fun v363 h => ?_)
        refine rv_i2l dL_law_1110 ?_
        refine rv_bipush (v := 32) dL_law_1111 (by decide) ?_
        refine rv_lshl dL_law_1113 ?_
        refine rv_aload_nT 0 dL_law_1114 rfl ?_
        refine rv_iload_n 3 dL_law_1115 rfl ?_
        refine rv_iconst (v := 4) dL_law_1116 (by decide) ?_
        refine rv_iadd dL_law_1117 ?_
        refine rv_sld dL_law_1118 h (fun v364 h => ?_)
        refine rv_i2l dL_law_1119 ?_
        refine rv_ldc2 dL_law_1120 kl_L_163 ?_
        refine rv_land dL_law_1123 ?_
        refine rv_lor dL_law_1124 ?_
        obtain ⟨v366, w367, h365, h⟩ := rB2_some h
        refine rv_callVr (k3 := 0) (n3 := 0) (st2 := []) caX9_item cvX9_item ml_L_165 dL_law_1125 rfl (E_X9_item h365).2 (E_X9_item h365).1 rfl rfl rfl rfl rfl ?_
        clear h365
        refine rv_aload_n 2 dL_law_1128 rfl ?_
        refine rv_aload_nT 0 dL_law_1129 rfl ?_
        refine rv_iload_n 3 dL_law_1130 rfl ?_
        refine rv_iconst (v := 1) dL_law_1131 (by decide) ?_
        refine rv_iadd dL_law_1132 ?_
        refine rv_sld dL_law_1133 h (fun v368 h => ?_)
        refine rv_aload_nT 0 dL_law_1134 rfl ?_
        refine rv_iload_n 3 dL_law_1135 rfl ?_
        refine rv_iconst (v := 2) dL_law_1136 (by decide) ?_
        refine rv_iadd dL_law_1137 ?_
        refine rv_sld dL_law_1138 h (fun v369 h => ?_)
        refine rv_aload_nT 0 dL_law_1139 rfl ?_
        refine rv_iload_n 3 dL_law_1140 rfl ?_
        refine rv_iconst (v := 3) dL_law_1141 (by decide) ?_
        refine rv_iadd dL_law_1142 ?_
        refine rv_sld dL_law_1143 h (fun v370 h => ?_)
        refine rv_i2l dL_law_1144 ?_
        refine rv_bipush (v := 32) dL_law_1145 (by decide) ?_
        refine rv_lshl dL_law_1147 ?_
        refine rv_aload_nT 0 dL_law_1148 rfl ?_
        refine rv_iload_n 3 dL_law_1149 rfl ?_
        refine rv_iconst (v := 4) dL_law_1150 (by decide) ?_
        refine rv_iadd dL_law_1151 ?_
        refine rv_sld dL_law_1152 h (fun v371 h => ?_)
        refine rv_i2l dL_law_1153 ?_
        refine rv_ldc2 dL_law_1154 kl_L_163 ?_
        refine rv_land dL_law_1157 ?_
        refine rv_lor dL_law_1158 ?_
        obtain ⟨v373, w374, h372, h⟩ := rB2_some h
        refine rv_callVr (k3 := 0) (n3 := 0) (st2 := [.int v366]) caX10_item cvX10_item ml_L_169 dL_law_1159 rfl (E_X10_item h372).2 (E_X10_item h372).1 rfl rfl rfl rfl rfl ?_
        clear h372
        refine rv_icmp_eq 1264 dL_law_1162 (by decide) (fun c375 => ?_) (fun c375 => ?_)
        · replace h := rIfT h c375
          exact rv_sub [0, 1, 2, 3] rfl (hK1264 w374 h)
        · replace h := rIfF h c375
          refine rv_iconst (v := 0) dL_law_1165 (by decide) ?_
          exact rv_iret .boolean dL_law_1166 rfl (by decide) (rRetZw (x := 0) h rfl)
      refine rIf h (fun c376 h => ?_) (fun c376 h => ?_)
      · refine rv_tswIn 1167 dL_law_33 c376 (by decide) (by decide) rfl (by decide) ?_
        refine rv_aload_n 1 dL_law_1167 rfl ?_
        refine rv_aload_nT 0 dL_law_1168 rfl ?_
        refine rv_iload_n 3 dL_law_1169 rfl ?_
        refine rv_iconst (v := 1) dL_law_1170 (by decide) ?_
        refine rv_iadd dL_law_1171 ?_
        refine rv_sld dL_law_1172 h (fun v377 h => ?_)
        refine rv_aload_nT 0 dL_law_1173 rfl ?_
        refine rv_iload_n 3 dL_law_1174 rfl ?_
        refine rv_iconst (v := 2) dL_law_1175 (by decide) ?_
        refine rv_iadd dL_law_1176 ?_
        refine rv_sld dL_law_1177 h (fun v378 h => ?_)
        obtain ⟨v380, h379, h⟩ := rBind h
        refine rv_callVr (k3 := 0) (n3 := 0) (st2 := []) caX9_peek cvX9_peek ml_L_170 dL_law_1178 rfl (E_X9_peek h379).2 (E_X9_peek h379).1 rfl rfl rfl rfl rfl ?_
        clear h379
        refine rv_aload_n 2 dL_law_1181 rfl ?_
        refine rv_aload_nT 0 dL_law_1182 rfl ?_
        refine rv_iload_n 3 dL_law_1183 rfl ?_
        refine rv_iconst (v := 1) dL_law_1184 (by decide) ?_
        refine rv_iadd dL_law_1185 ?_
        refine rv_sld dL_law_1186 h (fun v381 h => ?_)
        refine rv_aload_nT 0 dL_law_1187 rfl ?_
        refine rv_iload_n 3 dL_law_1188 rfl ?_
        refine rv_iconst (v := 2) dL_law_1189 (by decide) ?_
        refine rv_iadd dL_law_1190 ?_
        refine rv_sld dL_law_1191 h (fun v382 h => ?_)
        obtain ⟨v384, h383, h⟩ := rBind h
        refine rv_callVr (k3 := 0) (n3 := 0) (st2 := [.long v380]) caX10_peek cvX10_peek ml_L_173 dL_law_1192 rfl (E_X10_peek h383).2 (E_X10_peek h383).1 rfl rfl rfl rfl rfl ?_
        clear h383
        refine rv_lcmp dL_law_1195 ?_
        refine rv_if_eq 1264 dL_law_1196 (by decide) (fun c385 => ?_) (fun c385 => ?_)
        · replace h := rIfT h c385
          exact rv_sub [0, 1, 2, 3] rfl (hK1264 w h)
        · replace h := rIfF h c385
          refine rv_iconst (v := 0) dL_law_1199 (by decide) ?_
          exact rv_iret .boolean dL_law_1200 rfl (by decide) (rRetZw (x := 0) h rfl)
      refine rIf h (fun c386 h => ?_) (fun c386 h => ?_)
      · refine rv_tswIn 1201 dL_law_33 c386 (by decide) (by decide) rfl (by decide) ?_
        refine rv_aload_n 1 dL_law_1201 rfl ?_
        refine rv_aload_nT 0 dL_law_1202 rfl ?_
        refine rv_iload_n 3 dL_law_1203 rfl ?_
        refine rv_iconst (v := 1) dL_law_1204 (by decide) ?_
        refine rv_iadd dL_law_1205 ?_
        refine rv_sld dL_law_1206 h (fun v387 h => ?_)
        refine rv_aload_nT 0 dL_law_1207 rfl ?_
        refine rv_iload_n 3 dL_law_1208 rfl ?_
        refine rv_iconst (v := 2) dL_law_1209 (by decide) ?_
        refine rv_iadd dL_law_1210 ?_
        refine rv_sld dL_law_1211 h (fun v388 h => ?_)
        refine rv_aload_nT 0 dL_law_1212 rfl ?_
        refine rv_iload_n 3 dL_law_1213 rfl ?_
        refine rv_iconst (v := 3) dL_law_1214 (by decide) ?_
        refine rv_iadd dL_law_1215 ?_
        refine rv_sld dL_law_1216 h (fun v389 h => ?_)
        refine rv_aload_nT 0 dL_law_1217 rfl ?_
        refine rv_iload_n 3 dL_law_1218 rfl ?_
        refine rv_iconst (v := 4) dL_law_1219 (by decide) ?_
        refine rv_iadd dL_law_1220 ?_
        refine rv_sld dL_law_1221 h (fun v390 h => ?_)
        refine rv_aload_nT 0 dL_law_1222 rfl ?_
        refine rv_iload_n 3 dL_law_1223 rfl ?_
        refine rv_iconst (v := 5) dL_law_1224 (by decide) ?_
        refine rv_iadd dL_law_1225 ?_
        refine rv_sld dL_law_1226 h (fun v391 h => ?_)
        obtain ⟨v393, w394, h392, h⟩ := rB2_some h
        refine rv_callVr (k3 := 0) (n3 := 0) (st2 := []) caX9_shift cvX9_shift ml_L_174 dL_law_1227 rfl (E_X9_shift h392).2 (E_X9_shift h392).1 rfl rfl rfl rfl rfl ?_
        clear h392
        refine rv_aload_n 2 dL_law_1230 rfl ?_
        refine rv_aload_nT 0 dL_law_1231 rfl ?_
        refine rv_iload_n 3 dL_law_1232 rfl ?_
        refine rv_iconst (v := 1) dL_law_1233 (by decide) ?_
        refine rv_iadd dL_law_1234 ?_
        refine rv_sld dL_law_1235 h (fun v395 h => ?_)
        refine rv_aload_nT 0 dL_law_1236 rfl ?_
        refine rv_iload_n 3 dL_law_1237 rfl ?_
        refine rv_iconst (v := 2) dL_law_1238 (by decide) ?_
        refine rv_iadd dL_law_1239 ?_
        refine rv_sld dL_law_1240 h (fun v396 h => ?_)
        refine rv_aload_nT 0 dL_law_1241 rfl ?_
        refine rv_iload_n 3 dL_law_1242 rfl ?_
        refine rv_iconst (v := 3) dL_law_1243 (by decide) ?_
        refine rv_iadd dL_law_1244 ?_
        refine rv_sld dL_law_1245 h (fun v397 h => ?_)
        refine rv_aload_nT 0 dL_law_1246 rfl ?_
        refine rv_iload_n 3 dL_law_1247 rfl ?_
        refine rv_iconst (v := 4) dL_law_1248 (by decide) ?_
        refine rv_iadd dL_law_1249 ?_
        refine rv_sld dL_law_1250 h (fun v398 h => ?_)
        refine rv_aload_nT 0 dL_law_1251 rfl ?_
        refine rv_iload_n 3 dL_law_1252 rfl ?_
        refine rv_iconst (v := 5) dL_law_1253 (by decide) ?_
        refine rv_iadd dL_law_1254 ?_
        refine rv_sld dL_law_1255 h (fun v399 h => ?_)
        obtain ⟨v401, w402, h400, h⟩ := rB2_some h
        refine rv_callVr (k3 := 0) (n3 := 0) (st2 := [.int v393]) caX10_shift cvX10_shift ml_L_178 dL_law_1256 rfl (E_X10_shift h400).2 (E_X10_shift h400).1 rfl rfl rfl rfl rfl ?_
        clear h400
        refine rv_icmp_eq 1264 dL_law_1259 (by decide) (fun c403 => ?_) (fun c403 => ?_)
        · replace h := rIfT h c403
          exact rv_sub [0, 1, 2, 3] rfl (hK1264 w402 h)
        · replace h := rIfF h c403
          refine rv_iconst (v := 0) dL_law_1262 (by decide) ?_
          exact rv_iret .boolean dL_law_1263 rfl (by decide) (rRetZw (x := 0) h rfl)
      refine rv_tswOut 1264 [0, 1, 2, 3, 4, 5, 6, 7, 8, 9, 10, 11, 12, 13, 14, 15, 16, 17, 18, 19, 20, 21, 22, 23, 24, 25, 26, 27, 28, 29, 30, 31, 32, 33, 34, 35, 36, 37, 38] dL_law_33 (by decide) (by decide) (by decide) (fun v hv => ?_) ?_
      · simp only [List.mem_cons, List.not_mem_nil, or_false] at hv
        rcases hv with rfl | rfl | rfl | rfl | rfl | rfl | rfl | rfl | rfl | rfl | rfl | rfl | rfl | rfl | rfl | rfl | rfl | rfl | rfl | rfl | rfl | rfl | rfl | rfl | rfl | rfl | rfl | rfl | rfl | rfl | rfl | rfl | rfl | rfl | rfl | rfl | rfl | rfl | rfl
        · exact c14
        · exact c28
        · exact c40
        · exact c52
        · exact c60
        · exact c68
        · exact c80
        · exact c88
        · exact c96
        · exact c104
        · exact c116
        · exact c126
        · exact c134
        · exact c142
        · exact c150
        · exact c158
        · exact c168
        · exact c176
        · exact c182
        · exact c190
        · exact c199
        · exact c209
        · exact c219
        · exact c231
        · exact c243
        · exact c254
        · exact c264
        · exact c272
        · exact c284
        · exact c294
        · exact c306
        · exact c312
        · exact c322
        · exact c330
        · exact c338
        · exact c346
        · exact c360
        · exact c376
        · exact c386
      exact rv_sub [0, 1, 2, 3] rfl (hK1264 w h)

set_option maxRecDepth 20000 in
set_option maxHeartbeats 4000000 in
theorem E_L_law {L : Nat} {xs : Nat → Int32} (hL : L < 2 ^ 31) {r0 : Bool} {w0 w : rW} (h : J_L_law L xs w = some (r0, w0)) : rEvZ (rZl L xs) mL_law 46 87 5473 0 [(0, .float 7000)] [] w (rIs (some (.int (bi r0))) w0) := by
  unfold J_L_law at h
  refine rv_newB 9 9 [.null, .null, .int 0, .null, .null, .null, .null, .null, .null] RX9 TX9 tyX9 rfl fw_X9 tyX9_ok cl_L_7 ib_X9 in_X9 (by decide +kernel) rfl dL_law_0 h (fun a1 w2 h => ?_)
  refine rv_dup dL_law_3 rfl ?_
  obtain ⟨w4, h3, h⟩ := rBind h
  refine rv_callIv (k3 := 27) (n3 := 3890) (st2 := [.ref a1]) caX9_init ciX9_init ml_L_9 dL_law_4 rfl (E_X9_init h3) rfl rfl rfl rfl rfl ?_
  clear h3
  refine rv_astore_n (l2 := [(1, .ref a1), (0, .float 7000)]) dL_law_7 rfl rfl ?_
  refine rv_newB 10 42 [.int 0, .int 0, .int 0, .int 0, .null, .null, .null, .null, .null, .null, .null, .int 0, .null, .null, .int 0, .null, .null, .int 0, .null, .int 0, .int 0, .null, .null, .int 0, .null, .null, .null, .null, .null, .int 0, .null, .null, .null, .null, .int 0, .null, .null, .null, .int 0, .int 0, .int 0, .int 0] RX10 TX10 tyX10 rfl fw_X10 tyX10_ok cl_L_10 ib_X10 in_X10 (by decide +kernel) rfl dL_law_8 h (fun a5 w6 h => ?_)
  refine rv_dup dL_law_11 rfl ?_
  obtain ⟨w8, h7, h⟩ := rBind h
  refine rv_callIv (k3 := 0) (n3 := 0) (st2 := [.ref a5]) caX10_init ciX10_init ml_L_12 dL_law_12 rfl (E_X10_init h7) rfl rfl rfl rfl rfl ?_
  clear h7
  refine rv_astore_n (l2 := [(2, .ref a5), (1, .ref a1), (0, .float 7000)]) dL_law_15 rfl rfl ?_
  refine rv_iconst (v := 0) dL_law_16 (by decide) ?_
  refine rv_istore_n (l2 := [(3, .int 0), (2, .ref a5), (1, .ref a1), (0, .float 7000)]) dL_law_17 rfl rfl ?_
  exact rv_sub [3, 2, 1, 0] rfl (E_L_law_18 L xs hL a1 a5 2000 0 w8 h)
