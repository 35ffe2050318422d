noncomputable def L_L_law_18 (len : Nat) (xs : Nat → Int32) (x1 : Nat) (x2 : Nat) : Nat → (HP → Option (Int32)) → HP → Int32 → Option (Int32)
  | 0, _, _, _ => none
  | n + 1, k, h, x3 =>
      if ((Int32.ofNat len) - 8) < x3 then (
        k h
      ) else (
        (rdS len xs x3).bind fun v2 =>
        if (v2 &&& 31) = 0 then (
          (rdS len xs (x3 + 1)).bind fun v4 =>
          (rdS len xs (x3 + 2)).bind fun v5 =>
          (rdS len xs (x3 + 3)).bind fun v6 =>
          ck 4 h x1 <|
          (f_X5_table h x1 v4 v5 v6).bind fun (h8, v9) =>
          (rdS len xs (x3 + 1)).bind fun v11 =>
          (rdS len xs (x3 + 2)).bind fun v12 =>
          (rdS len xs (x3 + 3)).bind fun v13 =>
          ck 5 h8 x2 <|
          (f_X6_table h8 x2 v11 v12 v13).bind fun (h15, v16) =>
          if v9 = v16 then (
            L_L_law_18 len xs x1 x2 n k h15 (x3 + 8)
          ) else (
            some 0
          )
        ) else
        if (v2 &&& 31) = 1 then (
          (rdS len xs (x3 + 1)).bind fun v20 =>
          (rdS len xs (x3 + 2)).bind fun v21 =>
          (rdS len xs (x3 + 3)).bind fun v22 =>
          (rdS len xs (x3 + 4)).bind fun v23 =>
          ck 4 h x1 <|
          (f_X5_triple h x1 v20 v21 (((Int32.toInt64 v22) <<< (Int32.toInt64 32 &&& 63)) ||| ((Int32.toInt64 v23) &&& 4294967295))).bind fun (h25, v26) =>
          (rdS len xs (x3 + 1)).bind fun v28 =>
          (rdS len xs (x3 + 2)).bind fun v29 =>
          (rdS len xs (x3 + 3)).bind fun v30 =>
          (rdS len xs (x3 + 4)).bind fun v31 =>
          ck 5 h25 x2 <|
          (f_X6_triple h25 x2 v28 v29 (((Int32.toInt64 v30) <<< (Int32.toInt64 32 &&& 63)) ||| ((Int32.toInt64 v31) &&& 4294967295))).bind fun (h33, v34) =>
          if v26 = v34 then (
            L_L_law_18 len xs x1 x2 n k h33 (x3 + 8)
          ) else (
            some 0
          )
        ) else
        if (v2 &&& 31) = 2 then (
          (rdS len xs (x3 + 1)).bind fun v38 =>
          ck 4 h x1 <|
          (f_X5_list h x1 v38).bind fun (h40, v41) =>
          (rdS len xs (x3 + 1)).bind fun v43 =>
          ck 5 h40 x2 <|
          (f_X6_list h40 x2 v43).bind fun (h45, v46) =>
          if v41 = v46 then (
            L_L_law_18 len xs x1 x2 n k h45 (x3 + 8)
          ) else (
            some 0
          )
        ) else
        if (v2 &&& 31) = 3 then (
          (rdS len xs (x3 + 1)).bind fun v50 =>
          ck 4 h x1 <|
          (f_X5_listed h x1 v50).bind fun v52 =>
          (rdS len xs (x3 + 1)).bind fun v54 =>
          ck 5 h x2 <|
          (f_X6_listed h x2 v54).bind fun v56 =>
          if v52 = v56 then (
            L_L_law_18 len xs x1 x2 n k h (x3 + 8)
          ) else (
            some 0
          )
        ) else
        if (v2 &&& 31) = 4 then (
          (rdS len xs (x3 + 1)).bind fun v60 =>
          ck 4 h x1 <|
          (f_X5_join h x1 v60).bind fun (h62, v63) =>
          (rdS len xs (x3 + 1)).bind fun v65 =>
          ck 5 h62 x2 <|
          (f_X6_join h62 x2 v65).bind fun (h67, v68) =>
          if v63 = v68 then (
            L_L_law_18 len xs x1 x2 n k h67 (x3 + 8)
          ) else (
            some 0
          )
        ) else
        if (v2 &&& 31) = 5 then (
          (rdS len xs (x3 + 1)).bind fun v72 =>
          (rdS len xs (x3 + 2)).bind fun v73 =>
          ck 4 h x1 <|
          (f_X5_count h x1 v72 v73).bind fun v75 =>
          (rdS len xs (x3 + 1)).bind fun v77 =>
          (rdS len xs (x3 + 2)).bind fun v78 =>
          ck 5 h x2 <|
          (f_X6_count h x2 v77 v78).bind fun v80 =>
          if v75 = v80 then (
            L_L_law_18 len xs x1 x2 n k h (x3 + 8)
          ) else (
            some 0
          )
        ) else
        if (v2 &&& 31) = 6 then (
          (rdS len xs (x3 + 1)).bind fun v84 =>
          (rdS len xs (x3 + 2)).bind fun v85 =>
          (rdS len xs (x3 + 3)).bind fun v86 =>
          ck 4 h x1 <|
          (f_X5_at h x1 v84 v85 v86).bind fun v88 =>
          (rdS len xs (x3 + 1)).bind fun v90 =>
          (rdS len xs (x3 + 2)).bind fun v91 =>
          (rdS len xs (x3 + 3)).bind fun v92 =>
          ck 5 h x2 <|
          (f_X6_at h x2 v90 v91 v92).bind fun v94 =>
          if (lg_cmp v88 v94) = 0 then (
            L_L_law_18 len xs x1 x2 n k h (x3 + 8)
          ) else (
            some 0
          )
        ) else
        if (v2 &&& 31) = 7 then (
          (rdS len xs (x3 + 1)).bind fun v98 =>
          (rdS len xs (x3 + 2)).bind fun v99 =>
          (rdS len xs (x3 + 3)).bind fun v100 =>
          ck 4 h x1 <|
          (f_X5_kept h x1 v98 v99 v100).bind fun v102 =>
          (rdS len xs (x3 + 1)).bind fun v104 =>
          (rdS len xs (x3 + 2)).bind fun v105 =>
          (rdS len xs (x3 + 3)).bind fun v106 =>
          ck 5 h x2 <|
          (f_X6_kept h x2 v104 v105 v106).bind fun v108 =>
          if v102 = v108 then (
            L_L_law_18 len xs x1 x2 n k h (x3 + 8)
          ) else (
            some 0
          )
        ) else
        if (v2 &&& 31) = 8 then (
          (rdS len xs (x3 + 1)).bind fun v112 =>
          (rdS len xs (x3 + 2)).bind fun v113 =>
          ck 4 h x1 <|
          (f_X5_place h x1 v112 v113).bind fun v115 =>
          (rdS len xs (x3 + 1)).bind fun v117 =>
          (rdS len xs (x3 + 2)).bind fun v118 =>
          ck 5 h x2 <|
          (f_X6_place h x2 v117 v118).bind fun v120 =>
          if v115 = v120 then (
            L_L_law_18 len xs x1 x2 n k h (x3 + 8)
          ) else (
            some 0
          )
        ) else
        if (v2 &&& 31) = 9 then (
          (rdS len xs (x3 + 1)).bind fun v124 =>
          (rdS len xs (x3 + 2)).bind fun v125 =>
          (rdS len xs (x3 + 3)).bind fun v126 =>
          (rdS len xs (x3 + 4)).bind fun v127 =>
          (rdS len xs (x3 + 5)).bind fun v128 =>
          ck 4 h x1 <|
          (f_X5_set h x1 v124 v125 v126 (((Int32.toInt64 v127) <<< (Int32.toInt64 32 &&& 63)) ||| ((Int32.toInt64 v128) &&& 4294967295))).bind fun (h130, v131) =>
          (rdS len xs (x3 + 1)).bind fun v133 =>
          (rdS len xs (x3 + 2)).bind fun v134 =>
          (rdS len xs (x3 + 3)).bind fun v135 =>
          (rdS len xs (x3 + 4)).bind fun v136 =>
          (rdS len xs (x3 + 5)).bind fun v137 =>
          ck 5 h130 x2 <|
          (f_X6_set h130 x2 v133 v134 v135 (((Int32.toInt64 v136) <<< (Int32.toInt64 32 &&& 63)) ||| ((Int32.toInt64 v137) &&& 4294967295))).bind fun (h139, v140) =>
          if v131 = v140 then (
            L_L_law_18 len xs x1 x2 n k h139 (x3 + 8)
          ) else (
            some 0
          )
        ) else
        if (v2 &&& 31) = 10 then (
          (rdS len xs (x3 + 1)).bind fun v144 =>
          ck 4 h x1 <|
          (f_X5_prune h x1 v144).bind fun (h146, v147) =>
          (rdS len xs (x3 + 1)).bind fun v149 =>
          ck 5 h146 x2 <|
          (f_X6_prune h146 x2 v149).bind fun (h151, v152) =>
          if v147 = v152 then (
            L_L_law_18 len xs x1 x2 n k h151 (x3 + 8)
          ) else (
            some 0
          )
        ) else
        if (v2 &&& 31) = 11 then (
          (rdS len xs (x3 + 1)).bind fun v156 =>
          (rdS len xs (x3 + 2)).bind fun v157 =>
          (rdS len xs (x3 + 3)).bind fun v158 =>
          (rdS len xs (x3 + 4)).bind fun v159 =>
          (rdS len xs (x3 + 5)).bind fun v160 =>
          (rdS len xs (x3 + 6)).bind fun v161 =>
          (rdS len xs (x3 + 7)).bind fun v162 =>
          ck 4 h x1 <|
          (f_X5_add h x1 v156 v157 v158 (((Int32.toInt64 v159) <<< (Int32.toInt64 32 &&& 63)) ||| ((Int32.toInt64 v160) &&& 4294967295)) (((Int32.toInt64 v161) <<< (Int32.toInt64 32 &&& 63)) ||| ((Int32.toInt64 v162) &&& 4294967295))).bind fun (h164, v165) =>
          (rdS len xs (x3 + 1)).bind fun v167 =>
          (rdS len xs (x3 + 2)).bind fun v168 =>
          (rdS len xs (x3 + 3)).bind fun v169 =>
          (rdS len xs (x3 + 4)).bind fun v170 =>
          (rdS len xs (x3 + 5)).bind fun v171 =>
          (rdS len xs (x3 + 6)).bind fun v172 =>
          (rdS len xs (x3 + 7)).bind fun v173 =>
          ck 5 h164 x2 <|
          (f_X6_add h164 x2 v167 v168 v169 (((Int32.toInt64 v170) <<< (Int32.toInt64 32 &&& 63)) ||| ((Int32.toInt64 v171) &&& 4294967295)) (((Int32.toInt64 v172) <<< (Int32.toInt64 32 &&& 63)) ||| ((Int32.toInt64 v173) &&& 4294967295))).bind fun (h175, v176) =>
          if v165 = v176 then (
            L_L_law_18 len xs x1 x2 n k h175 (x3 + 8)
          ) else (
            some 0
          )
        ) else
        if (v2 &&& 31) = 12 then (
          (rdS len xs (x3 + 1)).bind fun v180 =>
          (rdS len xs (x3 + 2)).bind fun v181 =>
          (rdS len xs (x3 + 3)).bind fun v182 =>
          ck 4 h x1 <|
          (f_X5_times h x1 v180 v181 v182).bind fun (h184, v185) =>
          (rdS len xs (x3 + 1)).bind fun v187 =>
          (rdS len xs (x3 + 2)).bind fun v188 =>
          (rdS len xs (x3 + 3)).bind fun v189 =>
          ck 5 h184 x2 <|
          (f_X6_times h184 x2 v187 v188 v189).bind fun (h191, v192) =>
          if v185 = v192 then (
            L_L_law_18 len xs x1 x2 n k h191 (x3 + 8)
          ) else (
            some 0
          )
        ) else
        if (v2 &&& 31) = 13 then (
          (rdS len xs (x3 + 1)).bind fun v196 =>
          (rdS len xs (x3 + 2)).bind fun v197 =>
          (rdS len xs (x3 + 3)).bind fun v198 =>
          ck 4 h x1 <|
          (f_X5_each h x1 v196 v197 v198).bind fun (h200, v201) =>
          (rdS len xs (x3 + 1)).bind fun v203 =>
          (rdS len xs (x3 + 2)).bind fun v204 =>
          (rdS len xs (x3 + 3)).bind fun v205 =>
          ck 5 h200 x2 <|
          (f_X6_each h200 x2 v203 v204 v205).bind fun (h207, v208) =>
          if v201 = v208 then (
            L_L_law_18 len xs x1 x2 n k h207 (x3 + 8)
          ) else (
            some 0
          )
        ) else
        if (v2 &&& 31) = 14 then (
          (rdS len xs (x3 + 1)).bind fun v212 =>
          (rdS len xs (x3 + 2)).bind fun v213 =>
          (rdS len xs (x3 + 3)).bind fun v214 =>
          (rdS len xs (x3 + 4)).bind fun v215 =>
          if v215 = 0 then (
            ck 4 h x1 <|
            (f_X5_mask h x1 v212 v213 v214 0).bind fun (h218, v219) =>
            (rdS len xs (x3 + 1)).bind fun v221 =>
            (rdS len xs (x3 + 2)).bind fun v222 =>
            (rdS len xs (x3 + 3)).bind fun v223 =>
            (rdS len xs (x3 + 4)).bind fun v224 =>
            if v224 = 0 then (
              ck 5 h218 x2 <|
              (f_X6_mask h218 x2 v221 v222 v223 0).bind fun (h227, v228) =>
              if v219 = v228 then (
                L_L_law_18 len xs x1 x2 n k h227 (x3 + 8)
              ) else (
                some 0
              )
            ) else (
              ck 5 h218 x2 <|
              (f_X6_mask h218 x2 v221 v222 v223 1).bind fun (h232, v233) =>
              if v219 = v233 then (
                L_L_law_18 len xs x1 x2 n k h232 (x3 + 8)
              ) else (
                some 0
              )
            )
          ) else (
            ck 4 h x1 <|
            (f_X5_mask h x1 v212 v213 v214 1).bind fun (h237, v238) =>
            (rdS len xs (x3 + 1)).bind fun v240 =>
            (rdS len xs (x3 + 2)).bind fun v241 =>
            (rdS len xs (x3 + 3)).bind fun v242 =>
            (rdS len xs (x3 + 4)).bind fun v243 =>
            if v243 = 0 then (
              ck 5 h237 x2 <|
              (f_X6_mask h237 x2 v240 v241 v242 0).bind fun (h246, v247) =>
              if v238 = v247 then (
                L_L_law_18 len xs x1 x2 n k h246 (x3 + 8)
              ) else (
                some 0
              )
            ) else (
              ck 5 h237 x2 <|
              (f_X6_mask h237 x2 v240 v241 v242 1).bind fun (h251, v252) =>
              if v238 = v252 then (
                L_L_law_18 len xs x1 x2 n k h251 (x3 + 8)
              ) else (
                some 0
              )
            )
          )
        ) else
        if (v2 &&& 31) = 15 then (
          (rdS len xs (x3 + 1)).bind fun v256 =>
          (rdS len xs (x3 + 2)).bind fun v257 =>
          ck 4 h x1 <|
          (f_X5_turn h x1 v256 v257).bind fun (h259, v260) =>
          (rdS len xs (x3 + 1)).bind fun v262 =>
          (rdS len xs (x3 + 2)).bind fun v263 =>
          ck 5 h259 x2 <|
          (f_X6_turn h259 x2 v262 v263).bind fun (h265, v266) =>
          if v260 = v266 then (
            L_L_law_18 len xs x1 x2 n k h265 (x3 + 8)
          ) else (
            some 0
          )
        ) else
        if (v2 &&& 31) = 16 then (
          (rdS len xs (x3 + 1)).bind fun v270 =>
          (rdS len xs (x3 + 2)).bind fun v271 =>
          ck 4 h x1 <|
          (f_X5_rows h x1 v270 v271).bind fun (h273, v274) =>
          (rdS len xs (x3 + 1)).bind fun v276 =>
          (rdS len xs (x3 + 2)).bind fun v277 =>
          ck 5 h273 x2 <|
          (f_X6_rows h273 x2 v276 v277).bind fun (h279, v280) =>
          if v274 = v280 then (
            L_L_law_18 len xs x1 x2 n k h279 (x3 + 8)
          ) else (
            some 0
          )
        ) else
        if (v2 &&& 31) = 17 then (
          (rdS len xs (x3 + 1)).bind fun v284 =>
          (rdS len xs (x3 + 2)).bind fun v285 =>
          (rdS len xs (x3 + 3)).bind fun v286 =>
          (rdS len xs (x3 + 4)).bind fun v287 =>
          (rdS len xs (x3 + 5)).bind fun v288 =>
          if v288 = 0 then (
            ck 4 h x1 <|
            (f_X5_slopes h x1 v284 v285 v286 v287 0).bind fun (h291, v292) =>
            (rdS len xs (x3 + 1)).bind fun v294 =>
            (rdS len xs (x3 + 2)).bind fun v295 =>
            (rdS len xs (x3 + 3)).bind fun v296 =>
            (rdS len xs (x3 + 4)).bind fun v297 =>
            (rdS len xs (x3 + 5)).bind fun v298 =>
            if v298 = 0 then (
              ck 5 h291 x2 <|
              (f_X6_slopes h291 x2 v294 v295 v296 v297 0).bind fun (h301, v302) =>
              if v292 = v302 then (
                L_L_law_18 len xs x1 x2 n k h301 (x3 + 8)
              ) else (
                some 0
              )
            ) else (
              ck 5 h291 x2 <|
              (f_X6_slopes h291 x2 v294 v295 v296 v297 1).bind fun (h306, v307) =>
              if v292 = v307 then (
                L_L_law_18 len xs x1 x2 n k h306 (x3 + 8)
              ) else (
                some 0
              )
            )
          ) else (
            ck 4 h x1 <|
            (f_X5_slopes h x1 v284 v285 v286 v287 1).bind fun (h311, v312) =>
            (rdS len xs (x3 + 1)).bind fun v314 =>
            (rdS len xs (x3 + 2)).bind fun v315 =>
            (rdS len xs (x3 + 3)).bind fun v316 =>
            (rdS len xs (x3 + 4)).bind fun v317 =>
            (rdS len xs (x3 + 5)).bind fun v318 =>
            if v318 = 0 then (
              ck 5 h311 x2 <|
              (f_X6_slopes h311 x2 v314 v315 v316 v317 0).bind fun (h321, v322) =>
              if v312 = v322 then (
                L_L_law_18 len xs x1 x2 n k h321 (x3 + 8)
              ) else (
                some 0
              )
            ) else (
              ck 5 h311 x2 <|
              (f_X6_slopes h311 x2 v314 v315 v316 v317 1).bind fun (h326, v327) =>
              if v312 = v327 then (
                L_L_law_18 len xs x1 x2 n k h326 (x3 + 8)
              ) else (
                some 0
              )
            )
          )
        ) else
        if (v2 &&& 31) = 18 then (
          (rdS len xs (x3 + 1)).bind fun v331 =>
          (rdS len xs (x3 + 2)).bind fun v332 =>
          if v332 = 0 then (
            (rdS len xs (x3 + 3)).bind fun v334 =>
            ck 4 h x1 <|
            (f_X5_sum h x1 v331 0 v334).bind fun v336 =>
            (rdS len xs (x3 + 1)).bind fun v338 =>
            (rdS len xs (x3 + 2)).bind fun v339 =>
            if v339 = 0 then (
              (rdS len xs (x3 + 3)).bind fun v341 =>
              ck 5 h x2 <|
              (f_X6_sum h x2 v338 0 v341).bind fun v343 =>
              if (lg_cmp v336 v343) = 0 then (
                L_L_law_18 len xs x1 x2 n k h (x3 + 8)
              ) else (
                some 0
              )
            ) else (
              (rdS len xs (x3 + 3)).bind fun v346 =>
              ck 5 h x2 <|
              (f_X6_sum h x2 v338 1 v346).bind fun v348 =>
              if (lg_cmp v336 v348) = 0 then (
                L_L_law_18 len xs x1 x2 n k h (x3 + 8)
              ) else (
                some 0
              )
            )
          ) else (
            (rdS len xs (x3 + 3)).bind fun v351 =>
            ck 4 h x1 <|
            (f_X5_sum h x1 v331 1 v351).bind fun v353 =>
            (rdS len xs (x3 + 1)).bind fun v355 =>
            (rdS len xs (x3 + 2)).bind fun v356 =>
            if v356 = 0 then (
              (rdS len xs (x3 + 3)).bind fun v358 =>
              ck 5 h x2 <|
              (f_X6_sum h x2 v355 0 v358).bind fun v360 =>
              if (lg_cmp v353 v360) = 0 then (
                L_L_law_18 len xs x1 x2 n k h (x3 + 8)
              ) else (
                some 0
              )
            ) else (
              (rdS len xs (x3 + 3)).bind fun v363 =>
              ck 5 h x2 <|
              (f_X6_sum h x2 v355 1 v363).bind fun v365 =>
              if (lg_cmp v353 v365) = 0 then (
                L_L_law_18 len xs x1 x2 n k h (x3 + 8)
              ) else (
                some 0
              )
            )
          )
        ) else
        if (v2 &&& 31) = 19 then (
          (rdS len xs (x3 + 1)).bind fun v369 =>
          (rdS len xs (x3 + 2)).bind fun v370 =>
          (rdS len xs (x3 + 3)).bind fun v371 =>
          ck 4 h x1 <|
          (f_X5_cost h x1 v369 v370 v371).bind fun (h373, v374) =>
          (rdS len xs (x3 + 1)).bind fun v376 =>
          (rdS len xs (x3 + 2)).bind fun v377 =>
          (rdS len xs (x3 + 3)).bind fun v378 =>
          ck 5 h373 x2 <|
          (f_X6_cost h373 x2 v376 v377 v378).bind fun (h380, v381) =>
          if v374 = v381 then (
            L_L_law_18 len xs x1 x2 n k h380 (x3 + 8)
          ) else (
            some 0
          )
        ) else
        if (v2 &&& 31) = 20 then (
          (rdS len xs (x3 + 1)).bind fun v385 =>
          (rdS len xs (x3 + 2)).bind fun v386 =>
          ck 4 h x1 <|
          (f_X5_cheapest h x1 v385 v386).bind fun (h388, v389) =>
          (rdS len xs (x3 + 1)).bind fun v391 =>
          (rdS len xs (x3 + 2)).bind fun v392 =>
          ck 5 h388 x2 <|
          (f_X6_cheapest h388 x2 v391 v392).bind fun (h394, v395) =>
          if v389 = v395 then (
            L_L_law_18 len xs x1 x2 n k h394 (x3 + 8)
          ) else (
            some 0
          )
        ) else
        if (v2 &&& 31) = 21 then (
          (rdS len xs (x3 + 1)).bind fun v399 =>
          (rdS len xs (x3 + 2)).bind fun v400 =>
          (rdS len xs (x3 + 3)).bind fun v401 =>
          (rdS len xs (x3 + 4)).bind fun v402 =>
          ck 4 h x1 <|
          (f_X5_cell h x1 v399 v400 v401 v402).bind fun (h404, v405) =>
          (rdS len xs (x3 + 1)).bind fun v407 =>
          (rdS len xs (x3 + 2)).bind fun v408 =>
          (rdS len xs (x3 + 3)).bind fun v409 =>
          (rdS len xs (x3 + 4)).bind fun v410 =>
          ck 5 h404 x2 <|
          (f_X6_cell h404 x2 v407 v408 v409 v410).bind fun (h412, v413) =>
          if (lg_cmp v405 v413) = 0 then (
            L_L_law_18 len xs x1 x2 n k h412 (x3 + 8)
          ) else (
            some 0
          )
        ) else
        if (v2 &&& 31) = 22 then (
          (rdS len xs (x3 + 1)).bind fun v417 =>
          (rdS len xs (x3 + 2)).bind fun v418 =>
          (rdS len xs (x3 + 3)).bind fun v419 =>
          (rdS len xs (x3 + 4)).bind fun v420 =>
          ck 4 h x1 <|
          (f_X5_walks h x1 v417 v418 v419 v420).bind fun (h422, v423) =>
          (rdS len xs (x3 + 1)).bind fun v425 =>
          (rdS len xs (x3 + 2)).bind fun v426 =>
          (rdS len xs (x3 + 3)).bind fun v427 =>
          (rdS len xs (x3 + 4)).bind fun v428 =>
          ck 5 h422 x2 <|
          (f_X6_walks h422 x2 v425 v426 v427 v428).bind fun (h430, v431) =>
          if (lg_cmp v423 v431) = 0 then (
            L_L_law_18 len xs x1 x2 n k h430 (x3 + 8)
          ) else (
            some 0
          )
        ) else
        if (v2 &&& 31) = 23 then (
          (rdS len xs (x3 + 1)).bind fun v435 =>
          (rdS len xs (x3 + 2)).bind fun v436 =>
          (rdS len xs (x3 + 3)).bind fun v437 =>
          ck 4 h x1 <|
          (f_X5_way h x1 v435 v436 v437).bind fun (h439, v440) =>
          (rdS len xs (x3 + 1)).bind fun v442 =>
          (rdS len xs (x3 + 2)).bind fun v443 =>
          (rdS len xs (x3 + 3)).bind fun v444 =>
          ck 5 h439 x2 <|
          (f_X6_way h439 x2 v442 v443 v444).bind fun v446 =>
          if v440 = v446 then (
            L_L_law_18 len xs x1 x2 n k h439 (x3 + 8)
          ) else (
            some 0
          )
        ) else
        if (v2 &&& 31) = 24 then (
          (rdS len xs (x3 + 1)).bind fun v450 =>
          (rdS len xs (x3 + 2)).bind fun v451 =>
          ck 4 h x1 <|
          (f_X5_ring h x1 v450 v451).bind fun (h453, v454) =>
          (rdS len xs (x3 + 1)).bind fun v456 =>
          (rdS len xs (x3 + 2)).bind fun v457 =>
          ck 5 h453 x2 <|
          (f_X6_ring h453 x2 v456 v457).bind fun v459 =>
          if v454 = v459 then (
            L_L_law_18 len xs x1 x2 n k h453 (x3 + 8)
          ) else (
            some 0
          )
        ) else
        if (v2 &&& 31) = 25 then (
          (rdS len xs (x3 + 1)).bind fun v463 =>
          ck 4 h x1 <|
          (f_X5_sort h x1 v463).bind fun (h465, v466) =>
          (rdS len xs (x3 + 1)).bind fun v468 =>
          ck 5 h465 x2 <|
          (f_X6_sort h465 x2 v468).bind fun (h470, v471) =>
          if v466 = v471 then (
            L_L_law_18 len xs x1 x2 n k h470 (x3 + 8)
          ) else (
            some 0
          )
        ) else
        if (v2 &&& 31) = 26 then (
          (rdS len xs (x3 + 1)).bind fun v475 =>
          ck 4 h x1 <|
          (f_X5_narrow h x1 v475).bind fun (h477, v478) =>
          (rdS len xs (x3 + 1)).bind fun v480 =>
          ck 5 h477 x2 <|
          (f_X6_narrow h477 x2 v480).bind fun (h482, v483) =>
          if v478 = v483 then (
            L_L_law_18 len xs x1 x2 n k h482 (x3 + 8)
          ) else (
            some 0
          )
        ) else
        if (v2 &&& 31) = 27 then (
          (rdS len xs (x3 + 1)).bind fun v487 =>
          ck 4 h x1 <|
          (f_X5_width h x1 v487).bind fun (h489, v490) =>
          (rdS len xs (x3 + 1)).bind fun v492 =>
          ck 5 h489 x2 <|
          (f_X6_width h489 x2 v492).bind fun v494 =>
          if v490 = v494 then (
            L_L_law_18 len xs x1 x2 n k h489 (x3 + 8)
          ) else (
            some 0
          )
        ) else
        (
          L_L_law_18 len xs x1 x2 n k h (x3 + 8)
        )
      )
set_option maxRecDepth 100000 in
set_option maxHeartbeats 4000000 in
theorem w_L_law_18 {b len : Nat} {xs : Nat → Int32} {p : Program} {l : Launch} {e : Env} {s : State} {m : MethodId} {below : List Frame} {meth : Method} {c : Code} {D : va_G} {ad : Nat → Nat} {cy : Nat → ClassId} (E : EE p s m #[Value.ref b] c code 4 wsU RL D cy) (hr : meth.sig.returnType = ret) (hlk : meth.locks = false) (hX : va_X b len xs s s.heap) (hbl : b < s.heap.size) (hbA : ¬ (fun q : Nat => s.heap.size ≤ q) b) (x1 : Nat) (x2 : Nat) : ∀ (n : Nat) (k : (HP → Option (Int32))) (h : HP) (x3 : Int32), (∀ (h : HP), k h = some 1 → JJ p l e room_1 s m #[Value.ref b] below meth c 600000 7302250 (lw_Z below #[Value.ref b] s) D ad cy (fun q : Nat => s.heap.size ≤ q) 4 h [] 1426 []) → L_L_law_18 len xs x1 x2 n k h x3 = some 1 → JJ p l e room_1 s m #[Value.ref b] below meth c 600000 7302250 (lw_Z below #[Value.ref b] s) D ad cy (fun q : Nat => s.heap.size ≤ q) 4 h [(0, .ref b), (1, .ref (ad x1)), (2, .ref (ad x2)), (3, .int x3)] 18 [] := by
  intro n
  induction n with
  | zero => intro k h x3 hk hf; cases hf
  | succ n ih =>
    intro k h x3 hk hf
    unfold L_L_law_18 at hf
    refine j_iload_n E 3 rfl dL_law_18 rfl ?_
    refine j_aload_n E 0 rfl dL_law_19 rfl ?_
    refine j_lenS E hX hbl hbA dL_law_20 ?_
    refine j_bipush (v := 8) E dL_law_21 (by decide) ?_
    refine j_isub E dL_law_23 ?_
    refine j_icmp_gt (tgt := 1426) E dL_law_24 (by decide) (fun z1 => ?_) (fun z1 => ?_)
    · have hf := ifp hf z1
      refine j_perm (lv' := []) [] rfl ?_
      exact hk h hf
    · have hf := ifn hf z1
      refine j_aload_n E 0 rfl dL_law_27 rfl ?_
      refine j_iload_n E 3 rfl dL_law_28 rfl ?_
      obtain ⟨v2, ev2, hf⟩ := bs hf
      refine j_rdS E hX hbl hbA ev2 dL_law_29 ?_
      refine j_bipush (v := 31) E dL_law_30 (by decide) ?_
      refine j_iand E dL_law_32 ?_
      by_cases z3 : (v2 &&& 31) = 0
      · have hf := ifp hf z3
        refine j_tabIn (off := 127) (tgt := 160) E dL_law_33 (by rw [z3]; decide) (by rw [z3]; decide) (by rw [z3]; decide) (by decide) ?_
        refine j_aload_n E 1 rfl dL_law_160 rfl ?_
        refine j_aload_n E 0 rfl dL_law_161 rfl ?_
        refine j_iload_n E 3 rfl dL_law_162 rfl ?_
        refine j_iconst (v := 1) E dL_law_163 (by decide) ?_
        refine j_iadd E dL_law_164 ?_
        obtain ⟨v4, ev4, hf⟩ := bs hf
        refine j_rdS E hX hbl hbA ev4 dL_law_165 ?_
        refine j_aload_n E 0 rfl dL_law_166 rfl ?_
        refine j_iload_n E 3 rfl dL_law_167 rfl ?_
        refine j_iconst (v := 2) E dL_law_168 (by decide) ?_
        refine j_iadd E dL_law_169 ?_
        obtain ⟨v5, ev5, hf⟩ := bs hf
        refine j_rdS E hX hbl hbA ev5 dL_law_170 ?_
        refine j_aload_n E 0 rfl dL_law_171 rfl ?_
        refine j_iload_n E 3 rfl dL_law_172 rfl ?_
        refine j_iconst (v := 3) E dL_law_173 (by decide) ?_
        refine j_iadd E dL_law_174 ?_
        obtain ⟨v6, ev6, hf⟩ := bs hf
        refine j_rdS E hX hbl hbA ev6 dL_law_175 ?_
        obtain ⟨k7, hf⟩ := ck_spec hf
        obtain ⟨⟨h8, v9⟩, e10, hf⟩ := bs hf
        refine j_callV (ci := 4) (b := x1) (As := [.int v4, .int v5, .int v6]) (rest := []) (v := (some (.int v9))) E (c_X5_table l D ad cy h x1 v4 v5 v6 e10) (mcwL E.1.2.2.2.2 uw_1_129 uw_1_126 uw_1_127 uw_1_128 uw_1_1 rfl rfl hd_X5_table ⟨by decide, by decide⟩) rfl k7 rfl rfl (Nat.le_of_ble_eq_true rfl) dL_law_176 ⟨by decide, by decide⟩ ?_
        refine j_stk (st' := [.int v9]) rfl ?_
        refine j_aload_n E 2 rfl dL_law_179 rfl ?_
        refine j_aload_n E 0 rfl dL_law_180 rfl ?_
        refine j_iload_n E 3 rfl dL_law_181 rfl ?_
        refine j_iconst (v := 1) E dL_law_182 (by decide) ?_
        refine j_iadd E dL_law_183 ?_
        obtain ⟨v11, ev11, hf⟩ := bs hf
        refine j_rdS E hX hbl hbA ev11 dL_law_184 ?_
        refine j_aload_n E 0 rfl dL_law_185 rfl ?_
        refine j_iload_n E 3 rfl dL_law_186 rfl ?_
        refine j_iconst (v := 2) E dL_law_187 (by decide) ?_
        refine j_iadd E dL_law_188 ?_
        obtain ⟨v12, ev12, hf⟩ := bs hf
        refine j_rdS E hX hbl hbA ev12 dL_law_189 ?_
        refine j_aload_n E 0 rfl dL_law_190 rfl ?_
        refine j_iload_n E 3 rfl dL_law_191 rfl ?_
        refine j_iconst (v := 3) E dL_law_192 (by decide) ?_
        refine j_iadd E dL_law_193 ?_
        obtain ⟨v13, ev13, hf⟩ := bs hf
        refine j_rdS E hX hbl hbA ev13 dL_law_194 ?_
        obtain ⟨k14, hf⟩ := ck_spec hf
        obtain ⟨⟨h15, v16⟩, e17, hf⟩ := bs hf
        refine j_callV (ci := 5) (b := x2) (As := [.int v11, .int v12, .int v13]) (rest := [.int v9]) (v := (some (.int v16))) E (c_X6_table l D ad cy h8 x2 v11 v12 v13 e17) (mcwL E.1.2.2.2.2 uw_3_151 uw_3_148 uw_3_149 uw_3_150 uw_1_6 rfl rfl hd_X6_table ⟨by decide, by decide⟩) rfl k14 rfl rfl (Nat.le_of_ble_eq_true rfl) dL_law_195 ⟨by decide, by decide⟩ ?_
        refine j_stk (st' := [.int v16, .int v9]) rfl ?_
        refine j_icmp_eq (tgt := 1420) E dL_law_198 (by decide) (fun z18 => ?_) (fun z18 => ?_)
        · have hf := ifp hf z18
          refine j_iinc (v := (x3 + 8)) (k0 := 3) (lv' := [(3, .int (x3 + 8)), (0, .ref b), (1, .ref (ad x1)), (2, .ref (ad x2))]) E dL_law_1420 rfl (congrArg (fun z => x3 + z) (by decide)) (by decide) rfl ?_
          refine j_goto (tgt := 18) E dL_law_1423 (by decide) ?_
          refine j_perm (lv' := [(0, .ref b), (1, .ref (ad x1)), (2, .ref (ad x2)), (3, .int (x3 + 8))]) [1, 2, 3, 0] rfl ?_
          exact ih k h15 (x3 + 8) hk hf
        · have hf := ifn hf z18
          refine j_iconst (v := 0) E dL_law_201 (by decide) ?_
          exact absurd (Option.some.inj hf) (by decide)
      · have hf := ifn hf z3
        by_cases z19 : (v2 &&& 31) = 1
        · have hf := ifp hf z19
          refine j_tabIn (off := 170) (tgt := 203) E dL_law_33 (by rw [z19]; decide) (by rw [z19]; decide) (by rw [z19]; decide) (by decide) ?_
          refine j_aload_n E 1 rfl dL_law_203 rfl ?_
          refine j_aload_n E 0 rfl dL_law_204 rfl ?_
          refine j_iload_n E 3 rfl dL_law_205 rfl ?_
          refine j_iconst (v := 1) E dL_law_206 (by decide) ?_
          refine j_iadd E dL_law_207 ?_
          obtain ⟨v20, ev20, hf⟩ := bs hf
          refine j_rdS E hX hbl hbA ev20 dL_law_208 ?_
          refine j_aload_n E 0 rfl dL_law_209 rfl ?_
          refine j_iload_n E 3 rfl dL_law_210 rfl ?_
          refine j_iconst (v := 2) E dL_law_211 (by decide) ?_
          refine j_iadd E dL_law_212 ?_
          obtain ⟨v21, ev21, hf⟩ := bs hf
          refine j_rdS E hX hbl hbA ev21 dL_law_213 ?_
          refine j_aload_n E 0 rfl dL_law_214 rfl ?_
          refine j_iload_n E 3 rfl dL_law_215 rfl ?_
          refine j_iconst (v := 3) E dL_law_216 (by decide) ?_
          refine j_iadd E dL_law_217 ?_
          obtain ⟨v22, ev22, hf⟩ := bs hf
          refine j_rdS E hX hbl hbA ev22 dL_law_218 ?_
          refine j_i2l E dL_law_219 ?_
          refine j_bipush (v := 32) E dL_law_220 (by decide) ?_
          refine j_lshl E dL_law_222 ?_
          refine j_aload_n E 0 rfl dL_law_223 rfl ?_
          refine j_iload_n E 3 rfl dL_law_224 rfl ?_
          refine j_iconst (v := 4) E dL_law_225 (by decide) ?_
          refine j_iadd E dL_law_226 ?_
          obtain ⟨v23, ev23, hf⟩ := bs hf
          refine j_rdS E hX hbl hbA ev23 dL_law_227 ?_
          refine j_i2l E dL_law_228 ?_
          refine j_ldc2 (v := 4294967295) E uw_4_138 dL_law_229 ?_
          refine j_land E dL_law_232 ?_
          refine j_lor E dL_law_233 ?_
          obtain ⟨k24, hf⟩ := ck_spec hf
          obtain ⟨⟨h25, v26⟩, e27, hf⟩ := bs hf
          refine j_callV (ci := 4) (b := x1) (As := [.int v20, .int v21, .long (((Int32.toInt64 v22) <<< (Int32.toInt64 32 &&& 63)) ||| ((Int32.toInt64 v23) &&& 4294967295))]) (rest := []) (v := (some (.int v26))) E (c_X5_triple l D ad cy h x1 v20 v21 (((Int32.toInt64 v22) <<< (Int32.toInt64 32 &&& 63)) ||| ((Int32.toInt64 v23) &&& 4294967295)) e27) (mcwL E.1.2.2.2.2 uw_1_161 uw_1_158 uw_1_159 uw_1_160 uw_1_1 rfl rfl hd_X5_triple ⟨by decide, by decide⟩) rfl k24 rfl rfl (Nat.le_of_ble_eq_true rfl) dL_law_234 ⟨by decide, by decide⟩ ?_
          refine j_stk (st' := [.int v26]) rfl ?_
          refine j_aload_n E 2 rfl dL_law_237 rfl ?_
          refine j_aload_n E 0 rfl dL_law_238 rfl ?_
          refine j_iload_n E 3 rfl dL_law_239 rfl ?_
          refine j_iconst (v := 1) E dL_law_240 (by decide) ?_
          refine j_iadd E dL_law_241 ?_
          obtain ⟨v28, ev28, hf⟩ := bs hf
          refine j_rdS E hX hbl hbA ev28 dL_law_242 ?_
          refine j_aload_n E 0 rfl dL_law_243 rfl ?_
          refine j_iload_n E 3 rfl dL_law_244 rfl ?_
          refine j_iconst (v := 2) E dL_law_245 (by decide) ?_
          refine j_iadd E dL_law_246 ?_
          obtain ⟨v29, ev29, hf⟩ := bs hf
          refine j_rdS E hX hbl hbA ev29 dL_law_247 ?_
          refine j_aload_n E 0 rfl dL_law_248 rfl ?_
          refine j_iload_n E 3 rfl dL_law_249 rfl ?_
          refine j_iconst (v := 3) E dL_law_250 (by decide) ?_
          refine j_iadd E dL_law_251 ?_
          obtain ⟨v30, ev30, hf⟩ := bs hf
          refine j_rdS E hX hbl hbA ev30 dL_law_252 ?_
          refine j_i2l E dL_law_253 ?_
          refine j_bipush (v := 32) E dL_law_254 (by decide) ?_
          refine j_lshl E dL_law_256 ?_
          refine j_aload_n E 0 rfl dL_law_257 rfl ?_
          refine j_iload_n E 3 rfl dL_law_258 rfl ?_
          refine j_iconst (v := 4) E dL_law_259 (by decide) ?_
          refine j_iadd E dL_law_260 ?_
          obtain ⟨v31, ev31, hf⟩ := bs hf
          refine j_rdS E hX hbl hbA ev31 dL_law_261 ?_
          refine j_i2l E dL_law_262 ?_
          refine j_ldc2 (v := 4294967295) E uw_4_138 dL_law_263 ?_
          refine j_land E dL_law_266 ?_
          refine j_lor E dL_law_267 ?_
          obtain ⟨k32, hf⟩ := ck_spec hf
          obtain ⟨⟨h33, v34⟩, e35, hf⟩ := bs hf
          refine j_callV (ci := 5) (b := x2) (As := [.int v28, .int v29, .long (((Int32.toInt64 v30) <<< (Int32.toInt64 32 &&& 63)) ||| ((Int32.toInt64 v31) &&& 4294967295))]) (rest := [.int v26]) (v := (some (.int v34))) E (c_X6_triple l D ad cy h25 x2 v28 v29 (((Int32.toInt64 v30) <<< (Int32.toInt64 32 &&& 63)) ||| ((Int32.toInt64 v31) &&& 4294967295)) e35) (mcwL E.1.2.2.2.2 uw_3_170 uw_3_167 uw_3_168 uw_3_169 uw_1_6 rfl rfl hd_X6_triple ⟨by decide, by decide⟩) rfl k32 rfl rfl (Nat.le_of_ble_eq_true rfl) dL_law_268 ⟨by decide, by decide⟩ ?_
          refine j_stk (st' := [.int v34, .int v26]) rfl ?_
          refine j_icmp_eq (tgt := 1420) E dL_law_271 (by decide) (fun z36 => ?_) (fun z36 => ?_)
          · have hf := ifp hf z36
            refine j_iinc (v := (x3 + 8)) (k0 := 3) (lv' := [(3, .int (x3 + 8)), (0, .ref b), (1, .ref (ad x1)), (2, .ref (ad x2))]) E dL_law_1420 rfl (congrArg (fun z => x3 + z) (by decide)) (by decide) rfl ?_
            refine j_goto (tgt := 18) E dL_law_1423 (by decide) ?_
            refine j_perm (lv' := [(0, .ref b), (1, .ref (ad x1)), (2, .ref (ad x2)), (3, .int (x3 + 8))]) [1, 2, 3, 0] rfl ?_
            exact ih k h33 (x3 + 8) hk hf
          · have hf := ifn hf z36
            refine j_iconst (v := 0) E dL_law_274 (by decide) ?_
            exact absurd (Option.some.inj hf) (by decide)
        · have hf := ifn hf z19
          by_cases z37 : (v2 &&& 31) = 2
          · have hf := ifp hf z37
            refine j_tabIn (off := 243) (tgt := 276) E dL_law_33 (by rw [z37]; decide) (by rw [z37]; decide) (by rw [z37]; decide) (by decide) ?_
            refine j_aload_n E 1 rfl dL_law_276 rfl ?_
            refine j_aload_n E 0 rfl dL_law_277 rfl ?_
            refine j_iload_n E 3 rfl dL_law_278 rfl ?_
            refine j_iconst (v := 1) E dL_law_279 (by decide) ?_
            refine j_iadd E dL_law_280 ?_
            obtain ⟨v38, ev38, hf⟩ := bs hf
            refine j_rdS E hX hbl hbA ev38 dL_law_281 ?_
            obtain ⟨k39, hf⟩ := ck_spec hf
            obtain ⟨⟨h40, v41⟩, e42, hf⟩ := bs hf
            refine j_callV (ci := 4) (b := x1) (As := [.int v38]) (rest := []) (v := (some (.int v41))) E (c_X5_list l D ad cy h x1 v38 e42) (mcwL E.1.2.2.2.2 uw_1_172 uw_1_169 uw_1_170 uw_1_171 uw_1_1 rfl rfl hd_X5_list ⟨by decide, by decide⟩) rfl k39 rfl rfl (Nat.le_of_ble_eq_true rfl) dL_law_282 ⟨by decide, by decide⟩ ?_
            refine j_stk (st' := [.int v41]) rfl ?_
            refine j_aload_n E 2 rfl dL_law_285 rfl ?_
            refine j_aload_n E 0 rfl dL_law_286 rfl ?_
            refine j_iload_n E 3 rfl dL_law_287 rfl ?_
            refine j_iconst (v := 1) E dL_law_288 (by decide) ?_
            refine j_iadd E dL_law_289 ?_
            obtain ⟨v43, ev43, hf⟩ := bs hf
            refine j_rdS E hX hbl hbA ev43 dL_law_290 ?_
            obtain ⟨k44, hf⟩ := ck_spec hf
            obtain ⟨⟨h45, v46⟩, e47, hf⟩ := bs hf
            refine j_callV (ci := 5) (b := x2) (As := [.int v43]) (rest := [.int v41]) (v := (some (.int v46))) E (c_X6_list l D ad cy h40 x2 v43 e47) (mcwL E.1.2.2.2.2 uw_3_174 uw_3_171 uw_3_172 uw_3_173 uw_1_6 rfl rfl hd_X6_list ⟨by decide, by decide⟩) rfl k44 rfl rfl (Nat.le_of_ble_eq_true rfl) dL_law_291 ⟨by decide, by decide⟩ ?_
            refine j_stk (st' := [.int v46, .int v41]) rfl ?_
            refine j_icmp_eq (tgt := 1420) E dL_law_294 (by decide) (fun z48 => ?_) (fun z48 => ?_)
            · have hf := ifp hf z48
              refine j_iinc (v := (x3 + 8)) (k0 := 3) (lv' := [(3, .int (x3 + 8)), (0, .ref b), (1, .ref (ad x1)), (2, .ref (ad x2))]) E dL_law_1420 rfl (congrArg (fun z => x3 + z) (by decide)) (by decide) rfl ?_
              refine j_goto (tgt := 18) E dL_law_1423 (by decide) ?_
              refine j_perm (lv' := [(0, .ref b), (1, .ref (ad x1)), (2, .ref (ad x2)), (3, .int (x3 + 8))]) [1, 2, 3, 0] rfl ?_
              exact ih k h45 (x3 + 8) hk hf
            · have hf := ifn hf z48
              refine j_iconst (v := 0) E dL_law_297 (by decide) ?_
              exact absurd (Option.some.inj hf) (by decide)
          · have hf := ifn hf z37
            by_cases z49 : (v2 &&& 31) = 3
            · have hf := ifp hf z49
              refine j_tabIn (off := 266) (tgt := 299) E dL_law_33 (by rw [z49]; decide) (by rw [z49]; decide) (by rw [z49]; decide) (by decide) ?_
              refine j_aload_n E 1 rfl dL_law_299 rfl ?_
              refine j_aload_n E 0 rfl dL_law_300 rfl ?_
              refine j_iload_n E 3 rfl dL_law_301 rfl ?_
              refine j_iconst (v := 1) E dL_law_302 (by decide) ?_
              refine j_iadd E dL_law_303 ?_
              obtain ⟨v50, ev50, hf⟩ := bs hf
              refine j_rdS E hX hbl hbA ev50 dL_law_304 ?_
              obtain ⟨k51, hf⟩ := ck_spec hf
              obtain ⟨v52, e53, hf⟩ := bs hf
              refine j_callV (ci := 4) (b := x1) (As := [.int v50]) (rest := []) (v := (some (.int v52))) E (c_X5_listed l D ad cy h x1 v50 e53) (mcwL E.1.2.2.2.2 uw_1_181 uw_1_178 uw_1_179 uw_1_180 uw_1_1 rfl rfl hd_X5_listed ⟨by decide, by decide⟩) rfl k51 rfl rfl (Nat.le_of_ble_eq_true rfl) dL_law_305 ⟨by decide, by decide⟩ ?_
              refine j_stk (st' := [.int v52]) rfl ?_
              refine j_aload_n E 2 rfl dL_law_308 rfl ?_
              refine j_aload_n E 0 rfl dL_law_309 rfl ?_
              refine j_iload_n E 3 rfl dL_law_310 rfl ?_
              refine j_iconst (v := 1) E dL_law_311 (by decide) ?_
              refine j_iadd E dL_law_312 ?_
              obtain ⟨v54, ev54, hf⟩ := bs hf
              refine j_rdS E hX hbl hbA ev54 dL_law_313 ?_
              obtain ⟨k55, hf⟩ := ck_spec hf
              obtain ⟨v56, e57, hf⟩ := bs hf
              refine j_callV (ci := 5) (b := x2) (As := [.int v54]) (rest := [.int v52]) (v := (some (.int v56))) E (c_X6_listed l D ad cy h x2 v54 e57) (mcwL E.1.2.2.2.2 uw_3_178 uw_3_175 uw_3_176 uw_3_177 uw_1_6 rfl rfl hd_X6_listed ⟨by decide, by decide⟩) rfl k55 rfl rfl (Nat.le_of_ble_eq_true rfl) dL_law_314 ⟨by decide, by decide⟩ ?_
              refine j_stk (st' := [.int v56, .int v52]) rfl ?_
              refine j_icmp_eq (tgt := 1420) E dL_law_317 (by decide) (fun z58 => ?_) (fun z58 => ?_)
              · have hf := ifp hf z58
                refine j_iinc (v := (x3 + 8)) (k0 := 3) (lv' := [(3, .int (x3 + 8)), (0, .ref b), (1, .ref (ad x1)), (2, .ref (ad x2))]) E dL_law_1420 rfl (congrArg (fun z => x3 + z) (by decide)) (by decide) rfl ?_
                refine j_goto (tgt := 18) E dL_law_1423 (by decide) ?_
                refine j_perm (lv' := [(0, .ref b), (1, .ref (ad x1)), (2, .ref (ad x2)), (3, .int (x3 + 8))]) [1, 2, 3, 0] rfl ?_
                exact ih k h (x3 + 8) hk hf
              · have hf := ifn hf z58
                refine j_iconst (v := 0) E dL_law_320 (by decide) ?_
                exact absurd (Option.some.inj hf) (by decide)
            · have hf := ifn hf z49
              by_cases z59 : (v2 &&& 31) = 4
              · have hf := ifp hf z59
                refine j_tabIn (off := 289) (tgt := 322) E dL_law_33 (by rw [z59]; decide) (by rw [z59]; decide) (by rw [z59]; decide) (by decide) ?_
                refine j_aload_n E 1 rfl dL_law_322 rfl ?_
                refine j_aload_n E 0 rfl dL_law_323 rfl ?_
                refine j_iload_n E 3 rfl dL_law_324 rfl ?_
                refine j_iconst (v := 1) E dL_law_325 (by decide) ?_
                refine j_iadd E dL_law_326 ?_
                obtain ⟨v60, ev60, hf⟩ := bs hf
                refine j_rdS E hX hbl hbA ev60 dL_law_327 ?_
                obtain ⟨k61, hf⟩ := ck_spec hf
                obtain ⟨⟨h62, v63⟩, e64, hf⟩ := bs hf
                refine j_callV (ci := 4) (b := x1) (As := [.int v60]) (rest := []) (v := (some (.int v63))) E (c_X5_join l D ad cy h x1 v60 e64) (mcwL E.1.2.2.2.2 uw_1_189 uw_1_186 uw_1_187 uw_1_188 uw_1_1 rfl rfl hd_X5_join ⟨by decide, by decide⟩) rfl k61 rfl rfl (Nat.le_of_ble_eq_true rfl) dL_law_328 ⟨by decide, by decide⟩ ?_
                refine j_stk (st' := [.int v63]) rfl ?_
                refine j_aload_n E 2 rfl dL_law_331 rfl ?_
                refine j_aload_n E 0 rfl dL_law_332 rfl ?_
                refine j_iload_n E 3 rfl dL_law_333 rfl ?_
                refine j_iconst (v := 1) E dL_law_334 (by decide) ?_
                refine j_iadd E dL_law_335 ?_
                obtain ⟨v65, ev65, hf⟩ := bs hf
                refine j_rdS E hX hbl hbA ev65 dL_law_336 ?_
                obtain ⟨k66, hf⟩ := ck_spec hf
                obtain ⟨⟨h67, v68⟩, e69, hf⟩ := bs hf
                refine j_callV (ci := 5) (b := x2) (As := [.int v65]) (rest := [.int v63]) (v := (some (.int v68))) E (c_X6_join l D ad cy h62 x2 v65 e69) (mcwL E.1.2.2.2.2 uw_3_182 uw_3_179 uw_3_180 uw_3_181 uw_1_6 rfl rfl hd_X6_join ⟨by decide, by decide⟩) rfl k66 rfl rfl (Nat.le_of_ble_eq_true rfl) dL_law_337 ⟨by decide, by decide⟩ ?_
                refine j_stk (st' := [.int v68, .int v63]) rfl ?_
                refine j_icmp_eq (tgt := 1420) E dL_law_340 (by decide) (fun z70 => ?_) (fun z70 => ?_)
                · have hf := ifp hf z70
                  refine j_iinc (v := (x3 + 8)) (k0 := 3) (lv' := [(3, .int (x3 + 8)), (0, .ref b), (1, .ref (ad x1)), (2, .ref (ad x2))]) E dL_law_1420 rfl (congrArg (fun z => x3 + z) (by decide)) (by decide) rfl ?_
                  refine j_goto (tgt := 18) E dL_law_1423 (by decide) ?_
                  refine j_perm (lv' := [(0, .ref b), (1, .ref (ad x1)), (2, .ref (ad x2)), (3, .int (x3 + 8))]) [1, 2, 3, 0] rfl ?_
                  exact ih k h67 (x3 + 8) hk hf
                · have hf := ifn hf z70
                  refine j_iconst (v := 0) E dL_law_343 (by decide) ?_
                  exact absurd (Option.some.inj hf) (by decide)
              · have hf := ifn hf z59
                by_cases z71 : (v2 &&& 31) = 5
                · have hf := ifp hf z71
                  refine j_tabIn (off := 312) (tgt := 345) E dL_law_33 (by rw [z71]; decide) (by rw [z71]; decide) (by rw [z71]; decide) (by decide) ?_
                  refine j_aload_n E 1 rfl dL_law_345 rfl ?_
                  refine j_aload_n E 0 rfl dL_law_346 rfl ?_
                  refine j_iload_n E 3 rfl dL_law_347 rfl ?_
                  refine j_iconst (v := 1) E dL_law_348 (by decide) ?_
                  refine j_iadd E dL_law_349 ?_
                  obtain ⟨v72, ev72, hf⟩ := bs hf
                  refine j_rdS E hX hbl hbA ev72 dL_law_350 ?_
                  refine j_aload_n E 0 rfl dL_law_351 rfl ?_
                  refine j_iload_n E 3 rfl dL_law_352 rfl ?_
                  refine j_iconst (v := 2) E dL_law_353 (by decide) ?_
                  refine j_iadd E dL_law_354 ?_
                  obtain ⟨v73, ev73, hf⟩ := bs hf
                  refine j_rdS E hX hbl hbA ev73 dL_law_355 ?_
                  obtain ⟨k74, hf⟩ := ck_spec hf
                  obtain ⟨v75, e76, hf⟩ := bs hf
                  refine j_callV (ci := 4) (b := x1) (As := [.int v72, .int v73]) (rest := []) (v := (some (.int v75))) E (c_X5_count l D ad cy h x1 v72 v73 e76) (mcwL E.1.2.2.2.2 uw_1_237 uw_1_234 uw_1_235 uw_1_236 uw_1_1 rfl rfl hd_X5_count ⟨by decide, by decide⟩) rfl k74 rfl rfl (Nat.le_of_ble_eq_true rfl) dL_law_356 ⟨by decide, by decide⟩ ?_
                  refine j_stk (st' := [.int v75]) rfl ?_
                  refine j_aload_n E 2 rfl dL_law_359 rfl ?_
                  refine j_aload_n E 0 rfl dL_law_360 rfl ?_
                  refine j_iload_n E 3 rfl dL_law_361 rfl ?_
                  refine j_iconst (v := 1) E dL_law_362 (by decide) ?_
                  refine j_iadd E dL_law_363 ?_
                  obtain ⟨v77, ev77, hf⟩ := bs hf
                  refine j_rdS E hX hbl hbA ev77 dL_law_364 ?_
                  refine j_aload_n E 0 rfl dL_law_365 rfl ?_
                  refine j_iload_n E 3 rfl dL_law_366 rfl ?_
                  refine j_iconst (v := 2) E dL_law_367 (by decide) ?_
                  refine j_iadd E dL_law_368 ?_
                  obtain ⟨v78, ev78, hf⟩ := bs hf
                  refine j_rdS E hX hbl hbA ev78 dL_law_369 ?_
                  obtain ⟨k79, hf⟩ := ck_spec hf
                  obtain ⟨v80, e81, hf⟩ := bs hf
                  refine j_callV (ci := 5) (b := x2) (As := [.int v77, .int v78]) (rest := [.int v75]) (v := (some (.int v80))) E (c_X6_count l D ad cy h x2 v77 v78 e81) (mcwL E.1.2.2.2.2 uw_3_198 uw_3_195 uw_3_196 uw_3_197 uw_1_6 rfl rfl hd_X6_count ⟨by decide, by decide⟩) rfl k79 rfl rfl (Nat.le_of_ble_eq_true rfl) dL_law_370 ⟨by decide, by decide⟩ ?_
                  refine j_stk (st' := [.int v80, .int v75]) rfl ?_
                  refine j_icmp_eq (tgt := 1420) E dL_law_373 (by decide) (fun z82 => ?_) (fun z82 => ?_)
                  · have hf := ifp hf z82
                    refine j_iinc (v := (x3 + 8)) (k0 := 3) (lv' := [(3, .int (x3 + 8)), (0, .ref b), (1, .ref (ad x1)), (2, .ref (ad x2))]) E dL_law_1420 rfl (congrArg (fun z => x3 + z) (by decide)) (by decide) rfl ?_
                    refine j_goto (tgt := 18) E dL_law_1423 (by decide) ?_
                    refine j_perm (lv' := [(0, .ref b), (1, .ref (ad x1)), (2, .ref (ad x2)), (3, .int (x3 + 8))]) [1, 2, 3, 0] rfl ?_
                    exact ih k h (x3 + 8) hk hf
                  · have hf := ifn hf z82
                    refine j_iconst (v := 0) E dL_law_376 (by decide) ?_
                    exact absurd (Option.some.inj hf) (by decide)
                · have hf := ifn hf z71
                  by_cases z83 : (v2 &&& 31) = 6
                  · have hf := ifp hf z83
                    refine j_tabIn (off := 345) (tgt := 378) E dL_law_33 (by rw [z83]; decide) (by rw [z83]; decide) (by rw [z83]; decide) (by decide) ?_
                    refine j_aload_n E 1 rfl dL_law_378 rfl ?_
                    refine j_aload_n E 0 rfl dL_law_379 rfl ?_
                    refine j_iload_n E 3 rfl dL_law_380 rfl ?_
                    refine j_iconst (v := 1) E dL_law_381 (by decide) ?_
                    refine j_iadd E dL_law_382 ?_
                    obtain ⟨v84, ev84, hf⟩ := bs hf
                    refine j_rdS E hX hbl hbA ev84 dL_law_383 ?_
                    refine j_aload_n E 0 rfl dL_law_384 rfl ?_
                    refine j_iload_n E 3 rfl dL_law_385 rfl ?_
                    refine j_iconst (v := 2) E dL_law_386 (by decide) ?_
                    refine j_iadd E dL_law_387 ?_
                    obtain ⟨v85, ev85, hf⟩ := bs hf
                    refine j_rdS E hX hbl hbA ev85 dL_law_388 ?_
                    refine j_aload_n E 0 rfl dL_law_389 rfl ?_
                    refine j_iload_n E 3 rfl dL_law_390 rfl ?_
                    refine j_iconst (v := 3) E dL_law_391 (by decide) ?_
                    refine j_iadd E dL_law_392 ?_
                    obtain ⟨v86, ev86, hf⟩ := bs hf
                    refine j_rdS E hX hbl hbA ev86 dL_law_393 ?_
                    obtain ⟨k87, hf⟩ := ck_spec hf
                    obtain ⟨v88, e89, hf⟩ := bs hf
                    refine j_callV (ci := 4) (b := x1) (As := [.int v84, .int v85, .int v86]) (rest := []) (v := (some (.long v88))) E (c_X5_at l D ad cy h x1 v84 v85 v86 e89) (mcwL E.1.2.2.2.2 uw_2_12 uw_2_9 uw_2_10 uw_2_11 uw_1_1 rfl rfl hd_X5_at ⟨by decide, by decide⟩) rfl k87 rfl rfl (Nat.le_of_ble_eq_true rfl) dL_law_394 ⟨by decide, by decide⟩ ?_
                    refine j_stk (st' := [.long v88]) rfl ?_
                    refine j_aload_n E 2 rfl dL_law_397 rfl ?_
                    refine j_aload_n E 0 rfl dL_law_398 rfl ?_
                    refine j_iload_n E 3 rfl dL_law_399 rfl ?_
                    refine j_iconst (v := 1) E dL_law_400 (by decide) ?_
                    refine j_iadd E dL_law_401 ?_
                    obtain ⟨v90, ev90, hf⟩ := bs hf
                    refine j_rdS E hX hbl hbA ev90 dL_law_402 ?_
                    refine j_aload_n E 0 rfl dL_law_403 rfl ?_
                    refine j_iload_n E 3 rfl dL_law_404 rfl ?_
                    refine j_iconst (v := 2) E dL_law_405 (by decide) ?_
                    refine j_iadd E dL_law_406 ?_
                    obtain ⟨v91, ev91, hf⟩ := bs hf
                    refine j_rdS E hX hbl hbA ev91 dL_law_407 ?_
                    refine j_aload_n E 0 rfl dL_law_408 rfl ?_
                    refine j_iload_n E 3 rfl dL_law_409 rfl ?_
                    refine j_iconst (v := 3) E dL_law_410 (by decide) ?_
                    refine j_iadd E dL_law_411 ?_
                    obtain ⟨v92, ev92, hf⟩ := bs hf
                    refine j_rdS E hX hbl hbA ev92 dL_law_412 ?_
                    obtain ⟨k93, hf⟩ := ck_spec hf
                    obtain ⟨v94, e95, hf⟩ := bs hf
                    refine j_callV (ci := 5) (b := x2) (As := [.int v90, .int v91, .int v92]) (rest := [.long v88]) (v := (some (.long v94))) E (c_X6_at l D ad cy h x2 v90 v91 v92 e95) (mcwL E.1.2.2.2.2 uw_3_202 uw_3_199 uw_3_200 uw_3_201 uw_1_6 rfl rfl hd_X6_at ⟨by decide, by decide⟩) rfl k93 rfl rfl (Nat.le_of_ble_eq_true rfl) dL_law_413 ⟨by decide, by decide⟩ ?_
                    refine j_stk (st' := [.long v94, .long v88]) rfl ?_
                    refine j_lcmp E dL_law_416 ?_
                    refine j_if_eq (tgt := 1420) E dL_law_417 (by decide) (fun z96 => ?_) (fun z96 => ?_)
                    · have hf := ifp hf z96
                      refine j_iinc (v := (x3 + 8)) (k0 := 3) (lv' := [(3, .int (x3 + 8)), (0, .ref b), (1, .ref (ad x1)), (2, .ref (ad x2))]) E dL_law_1420 rfl (congrArg (fun z => x3 + z) (by decide)) (by decide) rfl ?_
                      refine j_goto (tgt := 18) E dL_law_1423 (by decide) ?_
                      refine j_perm (lv' := [(0, .ref b), (1, .ref (ad x1)), (2, .ref (ad x2)), (3, .int (x3 + 8))]) [1, 2, 3, 0] rfl ?_
                      exact ih k h (x3 + 8) hk hf
                    · have hf := ifn hf z96
                      refine j_iconst (v := 0) E dL_law_420 (by decide) ?_
                      exact absurd (Option.some.inj hf) (by decide)
                  · have hf := ifn hf z83
                    by_cases z97 : (v2 &&& 31) = 7
                    · have hf := ifp hf z97
                      refine j_tabIn (off := 389) (tgt := 422) E dL_law_33 (by rw [z97]; decide) (by rw [z97]; decide) (by rw [z97]; decide) (by decide) ?_
                      refine j_aload_n E 1 rfl dL_law_422 rfl ?_
                      refine j_aload_n E 0 rfl dL_law_423 rfl ?_
                      refine j_iload_n E 3 rfl dL_law_424 rfl ?_
                      refine j_iconst (v := 1) E dL_law_425 (by decide) ?_
                      refine j_iadd E dL_law_426 ?_
                      obtain ⟨v98, ev98, hf⟩ := bs hf
                      refine j_rdS E hX hbl hbA ev98 dL_law_427 ?_
                      refine j_aload_n E 0 rfl dL_law_428 rfl ?_
                      refine j_iload_n E 3 rfl dL_law_429 rfl ?_
                      refine j_iconst (v := 2) E dL_law_430 (by decide) ?_
                      refine j_iadd E dL_law_431 ?_
                      obtain ⟨v99, ev99, hf⟩ := bs hf
                      refine j_rdS E hX hbl hbA ev99 dL_law_432 ?_
                      refine j_aload_n E 0 rfl dL_law_433 rfl ?_
                      refine j_iload_n E 3 rfl dL_law_434 rfl ?_
                      refine j_iconst (v := 3) E dL_law_435 (by decide) ?_
                      refine j_iadd E dL_law_436 ?_
                      obtain ⟨v100, ev100, hf⟩ := bs hf
                      refine j_rdS E hX hbl hbA ev100 dL_law_437 ?_
                      obtain ⟨k101, hf⟩ := ck_spec hf
                      obtain ⟨v102, e103, hf⟩ := bs hf
                      refine j_callV (ci := 4) (b := x1) (As := [.int v98, .int v99, .int v100]) (rest := []) (v := (some (.int v102))) E (c_X5_kept l D ad cy h x1 v98 v99 v100 e103) (mcwL E.1.2.2.2.2 uw_2_18 uw_2_15 uw_2_16 uw_2_17 uw_1_1 rfl rfl hd_X5_kept ⟨by decide, by decide⟩) rfl k101 rfl rfl (Nat.le_of_ble_eq_true rfl) dL_law_438 ⟨by decide, by decide⟩ ?_
                      refine j_stk (st' := [.int v102]) rfl ?_
                      refine j_aload_n E 2 rfl dL_law_441 rfl ?_
                      refine j_aload_n E 0 rfl dL_law_442 rfl ?_
                      refine j_iload_n E 3 rfl dL_law_443 rfl ?_
                      refine j_iconst (v := 1) E dL_law_444 (by decide) ?_
                      refine j_iadd E dL_law_445 ?_
                      obtain ⟨v104, ev104, hf⟩ := bs hf
                      refine j_rdS E hX hbl hbA ev104 dL_law_446 ?_
                      refine j_aload_n E 0 rfl dL_law_447 rfl ?_
                      refine j_iload_n E 3 rfl dL_law_448 rfl ?_
                      refine j_iconst (v := 2) E dL_law_449 (by decide) ?_
                      refine j_iadd E dL_law_450 ?_
                      obtain ⟨v105, ev105, hf⟩ := bs hf
                      refine j_rdS E hX hbl hbA ev105 dL_law_451 ?_
                      refine j_aload_n E 0 rfl dL_law_452 rfl ?_
                      refine j_iload_n E 3 rfl dL_law_453 rfl ?_
                      refine j_iconst (v := 3) E dL_law_454 (by decide) ?_
                      refine j_iadd E dL_law_455 ?_
                      obtain ⟨v106, ev106, hf⟩ := bs hf
                      refine j_rdS E hX hbl hbA ev106 dL_law_456 ?_
                      obtain ⟨k107, hf⟩ := ck_spec hf
                      obtain ⟨v108, e109, hf⟩ := bs hf
                      refine j_callV (ci := 5) (b := x2) (As := [.int v104, .int v105, .int v106]) (rest := [.int v102]) (v := (some (.int v108))) E (c_X6_kept l D ad cy h x2 v104 v105 v106 e109) (mcwL E.1.2.2.2.2 uw_3_217 uw_3_214 uw_3_215 uw_3_216 uw_1_6 rfl rfl hd_X6_kept ⟨by decide, by decide⟩) rfl k107 rfl rfl (Nat.le_of_ble_eq_true rfl) dL_law_457 ⟨by decide, by decide⟩ ?_
                      refine j_stk (st' := [.int v108, .int v102]) rfl ?_
                      refine j_icmp_eq (tgt := 1420) E dL_law_460 (by decide) (fun z110 => ?_) (fun z110 => ?_)
                      · have hf := ifp hf z110
                        refine j_iinc (v := (x3 + 8)) (k0 := 3) (lv' := [(3, .int (x3 + 8)), (0, .ref b), (1, .ref (ad x1)), (2, .ref (ad x2))]) E dL_law_1420 rfl (congrArg (fun z => x3 + z) (by decide)) (by decide) rfl ?_
                        refine j_goto (tgt := 18) E dL_law_1423 (by decide) ?_
                        refine j_perm (lv' := [(0, .ref b), (1, .ref (ad x1)), (2, .ref (ad x2)), (3, .int (x3 + 8))]) [1, 2, 3, 0] rfl ?_
                        exact ih k h (x3 + 8) hk hf
                      · have hf := ifn hf z110
                        refine j_iconst (v := 0) E dL_law_463 (by decide) ?_
                        exact absurd (Option.some.inj hf) (by decide)
                    · have hf := ifn hf z97
                      by_cases z111 : (v2 &&& 31) = 8
                      · have hf := ifp hf z111
                        refine j_tabIn (off := 432) (tgt := 465) E dL_law_33 (by rw [z111]; decide) (by rw [z111]; decide) (by rw [z111]; decide) (by decide) ?_
                        refine j_aload_n E 1 rfl dL_law_465 rfl ?_
                        refine j_aload_n E 0 rfl dL_law_466 rfl ?_
                        refine j_iload_n E 3 rfl dL_law_467 rfl ?_
                        refine j_iconst (v := 1) E dL_law_468 (by decide) ?_
                        refine j_iadd E dL_law_469 ?_
                        obtain ⟨v112, ev112, hf⟩ := bs hf
                        refine j_rdS E hX hbl hbA ev112 dL_law_470 ?_
                        refine j_aload_n E 0 rfl dL_law_471 rfl ?_
                        refine j_iload_n E 3 rfl dL_law_472 rfl ?_
                        refine j_iconst (v := 2) E dL_law_473 (by decide) ?_
                        refine j_iadd E dL_law_474 ?_
                        obtain ⟨v113, ev113, hf⟩ := bs hf
                        refine j_rdS E hX hbl hbA ev113 dL_law_475 ?_
                        obtain ⟨k114, hf⟩ := ck_spec hf
                        obtain ⟨v115, e116, hf⟩ := bs hf
                        refine j_callV (ci := 4) (b := x1) (As := [.int v112, .int v113]) (rest := []) (v := (some (.int v115))) E (c_X5_place l D ad cy h x1 v112 v113 e116) (mcwL E.1.2.2.2.2 uw_2_31 uw_2_28 uw_2_29 uw_2_30 uw_1_1 rfl rfl hd_X5_place ⟨by decide, by decide⟩) rfl k114 rfl rfl (Nat.le_of_ble_eq_true rfl) dL_law_476 ⟨by decide, by decide⟩ ?_
                        refine j_stk (st' := [.int v115]) rfl ?_
                        refine j_aload_n E 2 rfl dL_law_479 rfl ?_
                        refine j_aload_n E 0 rfl dL_law_480 rfl ?_
                        refine j_iload_n E 3 rfl dL_law_481 rfl ?_
                        refine j_iconst (v := 1) E dL_law_482 (by decide) ?_
                        refine j_iadd E dL_law_483 ?_
                        obtain ⟨v117, ev117, hf⟩ := bs hf
                        refine j_rdS E hX hbl hbA ev117 dL_law_484 ?_
                        refine j_aload_n E 0 rfl dL_law_485 rfl ?_
                        refine j_iload_n E 3 rfl dL_law_486 rfl ?_
                        refine j_iconst (v := 2) E dL_law_487 (by decide) ?_
                        refine j_iadd E dL_law_488 ?_
                        obtain ⟨v118, ev118, hf⟩ := bs hf
                        refine j_rdS E hX hbl hbA ev118 dL_law_489 ?_
                        obtain ⟨k119, hf⟩ := ck_spec hf
                        obtain ⟨v120, e121, hf⟩ := bs hf
                        refine j_callV (ci := 5) (b := x2) (As := [.int v117, .int v118]) (rest := [.int v115]) (v := (some (.int v120))) E (c_X6_place l D ad cy h x2 v117 v118 e121) (mcwL E.1.2.2.2.2 uw_3_221 uw_3_218 uw_3_219 uw_3_220 uw_1_6 rfl rfl hd_X6_place ⟨by decide, by decide⟩) rfl k119 rfl rfl (Nat.le_of_ble_eq_true rfl) dL_law_490 ⟨by decide, by decide⟩ ?_
                        refine j_stk (st' := [.int v120, .int v115]) rfl ?_
                        refine j_icmp_eq (tgt := 1420) E dL_law_493 (by decide) (fun z122 => ?_) (fun z122 => ?_)
                        · have hf := ifp hf z122
                          refine j_iinc (v := (x3 + 8)) (k0 := 3) (lv' := [(3, .int (x3 + 8)), (0, .ref b), (1, .ref (ad x1)), (2, .ref (ad x2))]) E dL_law_1420 rfl (congrArg (fun z => x3 + z) (by decide)) (by decide) rfl ?_
                          refine j_goto (tgt := 18) E dL_law_1423 (by decide) ?_
                          refine j_perm (lv' := [(0, .ref b), (1, .ref (ad x1)), (2, .ref (ad x2)), (3, .int (x3 + 8))]) [1, 2, 3, 0] rfl ?_
                          exact ih k h (x3 + 8) hk hf
                        · have hf := ifn hf z122
                          refine j_iconst (v := 0) E dL_law_496 (by decide) ?_
                          exact absurd (Option.some.inj hf) (by decide)
                      · have hf := ifn hf z111
                        by_cases z123 : (v2 &&& 31) = 9
                        · have hf := ifp hf z123
                          refine j_tabIn (off := 465) (tgt := 498) E dL_law_33 (by rw [z123]; decide) (by rw [z123]; decide) (by rw [z123]; decide) (by decide) ?_
                          refine j_aload_n E 1 rfl dL_law_498 rfl ?_
                          refine j_aload_n E 0 rfl dL_law_499 rfl ?_
                          refine j_iload_n E 3 rfl dL_law_500 rfl ?_
                          refine j_iconst (v := 1) E dL_law_501 (by decide) ?_
                          refine j_iadd E dL_law_502 ?_
                          obtain ⟨v124, ev124, hf⟩ := bs hf
                          refine j_rdS E hX hbl hbA ev124 dL_law_503 ?_
                          refine j_aload_n E 0 rfl dL_law_504 rfl ?_
                          refine j_iload_n E 3 rfl dL_law_505 rfl ?_
                          refine j_iconst (v := 2) E dL_law_506 (by decide) ?_
                          refine j_iadd E dL_law_507 ?_
                          obtain ⟨v125, ev125, hf⟩ := bs hf
                          refine j_rdS E hX hbl hbA ev125 dL_law_508 ?_
                          refine j_aload_n E 0 rfl dL_law_509 rfl ?_
                          refine j_iload_n E 3 rfl dL_law_510 rfl ?_
                          refine j_iconst (v := 3) E dL_law_511 (by decide) ?_
                          refine j_iadd E dL_law_512 ?_
                          obtain ⟨v126, ev126, hf⟩ := bs hf
                          refine j_rdS E hX hbl hbA ev126 dL_law_513 ?_
                          refine j_aload_n E 0 rfl dL_law_514 rfl ?_
                          refine j_iload_n E 3 rfl dL_law_515 rfl ?_
                          refine j_iconst (v := 4) E dL_law_516 (by decide) ?_
                          refine j_iadd E dL_law_517 ?_
                          obtain ⟨v127, ev127, hf⟩ := bs hf
                          refine j_rdS E hX hbl hbA ev127 dL_law_518 ?_
                          refine j_i2l E dL_law_519 ?_
                          refine j_bipush (v := 32) E dL_law_520 (by decide) ?_
                          refine j_lshl E dL_law_522 ?_
                          refine j_aload_n E 0 rfl dL_law_523 rfl ?_
                          refine j_iload_n E 3 rfl dL_law_524 rfl ?_
                          refine j_iconst (v := 5) E dL_law_525 (by decide) ?_
                          refine j_iadd E dL_law_526 ?_
                          obtain ⟨v128, ev128, hf⟩ := bs hf
                          refine j_rdS E hX hbl hbA ev128 dL_law_527 ?_
                          refine j_i2l E dL_law_528 ?_
                          refine j_ldc2 (v := 4294967295) E uw_4_138 dL_law_529 ?_
                          refine j_land E dL_law_532 ?_
                          refine j_lor E dL_law_533 ?_
                          obtain ⟨k129, hf⟩ := ck_spec hf
                          obtain ⟨⟨h130, v131⟩, e132, hf⟩ := bs hf
                          refine j_callV (ci := 4) (b := x1) (As := [.int v124, .int v125, .int v126, .long (((Int32.toInt64 v127) <<< (Int32.toInt64 32 &&& 63)) ||| ((Int32.toInt64 v128) &&& 4294967295))]) (rest := []) (v := (some (.int v131))) E (c_X5_set l D ad cy h x1 v124 v125 v126 (((Int32.toInt64 v127) <<< (Int32.toInt64 32 &&& 63)) ||| ((Int32.toInt64 v128) &&& 4294967295)) e132) (mcwL E.1.2.2.2.2 uw_2_42 uw_2_39 uw_2_40 uw_2_41 uw_1_1 rfl rfl hd_X5_set ⟨by decide, by decide⟩) rfl k129 rfl rfl (Nat.le_of_ble_eq_true rfl) dL_law_534 ⟨by decide, by decide⟩ ?_
                          refine j_stk (st' := [.int v131]) rfl ?_
                          refine j_aload_n E 2 rfl dL_law_537 rfl ?_
                          refine j_aload_n E 0 rfl dL_law_538 rfl ?_
                          refine j_iload_n E 3 rfl dL_law_539 rfl ?_
                          refine j_iconst (v := 1) E dL_law_540 (by decide) ?_
                          refine j_iadd E dL_law_541 ?_
                          obtain ⟨v133, ev133, hf⟩ := bs hf
                          refine j_rdS E hX hbl hbA ev133 dL_law_542 ?_
                          refine j_aload_n E 0 rfl dL_law_543 rfl ?_
                          refine j_iload_n E 3 rfl dL_law_544 rfl ?_
                          refine j_iconst (v := 2) E dL_law_545 (by decide) ?_
                          refine j_iadd E dL_law_546 ?_
                          obtain ⟨v134, ev134, hf⟩ := bs hf
                          refine j_rdS E hX hbl hbA ev134 dL_law_547 ?_
                          refine j_aload_n E 0 rfl dL_law_548 rfl ?_
                          refine j_iload_n E 3 rfl dL_law_549 rfl ?_
                          refine j_iconst (v := 3) E dL_law_550 (by decide) ?_
                          refine j_iadd E dL_law_551 ?_
                          obtain ⟨v135, ev135, hf⟩ := bs hf
                          refine j_rdS E hX hbl hbA ev135 dL_law_552 ?_
                          refine j_aload_n E 0 rfl dL_law_553 rfl ?_
                          refine j_iload_n E 3 rfl dL_law_554 rfl ?_
                          refine j_iconst (v := 4) E dL_law_555 (by decide) ?_
                          refine j_iadd E dL_law_556 ?_
                          obtain ⟨v136, ev136, hf⟩ := bs hf
                          refine j_rdS E hX hbl hbA ev136 dL_law_557 ?_
                          refine j_i2l E dL_law_558 ?_
                          refine j_bipush (v := 32) E dL_law_559 (by decide) ?_
                          refine j_lshl E dL_law_561 ?_
                          refine j_aload_n E 0 rfl dL_law_562 rfl ?_
                          refine j_iload_n E 3 rfl dL_law_563 rfl ?_
                          refine j_iconst (v := 5) E dL_law_564 (by decide) ?_
                          refine j_iadd E dL_law_565 ?_
                          obtain ⟨v137, ev137, hf⟩ := bs hf
                          refine j_rdS E hX hbl hbA ev137 dL_law_566 ?_
                          refine j_i2l E dL_law_567 ?_
                          refine j_ldc2 (v := 4294967295) E uw_4_138 dL_law_568 ?_
                          refine j_land E dL_law_571 ?_
                          refine j_lor E dL_law_572 ?_
                          obtain ⟨k138, hf⟩ := ck_spec hf
                          obtain ⟨⟨h139, v140⟩, e141, hf⟩ := bs hf
                          refine j_callV (ci := 5) (b := x2) (As := [.int v133, .int v134, .int v135, .long (((Int32.toInt64 v136) <<< (Int32.toInt64 32 &&& 63)) ||| ((Int32.toInt64 v137) &&& 4294967295))]) (rest := [.int v131]) (v := (some (.int v140))) E (c_X6_set l D ad cy h130 x2 v133 v134 v135 (((Int32.toInt64 v136) <<< (Int32.toInt64 32 &&& 63)) ||| ((Int32.toInt64 v137) &&& 4294967295)) e141) (mcwL E.1.2.2.2.2 uw_3_225 uw_3_222 uw_3_223 uw_3_224 uw_1_6 rfl rfl hd_X6_set ⟨by decide, by decide⟩) rfl k138 rfl rfl (Nat.le_of_ble_eq_true rfl) dL_law_573 ⟨by decide, by decide⟩ ?_
                          refine j_stk (st' := [.int v140, .int v131]) rfl ?_
                          refine j_icmp_eq (tgt := 1420) E dL_law_576 (by decide) (fun z142 => ?_) (fun z142 => ?_)
                          · have hf := ifp hf z142
                            refine j_iinc (v := (x3 + 8)) (k0 := 3) (lv' := [(3, .int (x3 + 8)), (0, .ref b), (1, .ref (ad x1)), (2, .ref (ad x2))]) E dL_law_1420 rfl (congrArg (fun z => x3 + z) (by decide)) (by decide) rfl ?_
                            refine j_goto (tgt := 18) E dL_law_1423 (by decide) ?_
                            refine j_perm (lv' := [(0, .ref b), (1, .ref (ad x1)), (2, .ref (ad x2)), (3, .int (x3 + 8))]) [1, 2, 3, 0] rfl ?_
                            exact ih k h139 (x3 + 8) hk hf
                          · have hf := ifn hf z142
                            refine j_iconst (v := 0) E dL_law_579 (by decide) ?_
                            exact absurd (Option.some.inj hf) (by decide)
                        · have hf := ifn hf z123
                          by_cases z143 : (v2 &&& 31) = 10
                          · have hf := ifp hf z143
                            refine j_tabIn (off := 548) (tgt := 581) E dL_law_33 (by rw [z143]; decide) (by rw [z143]; decide) (by rw [z143]; decide) (by decide) ?_
                            refine j_aload_n E 1 rfl dL_law_581 rfl ?_
                            refine j_aload_n E 0 rfl dL_law_582 rfl ?_
                            refine j_iload_n E 3 rfl dL_law_583 rfl ?_
                            refine j_iconst (v := 1) E dL_law_584 (by decide) ?_
                            refine j_iadd E dL_law_585 ?_
                            obtain ⟨v144, ev144, hf⟩ := bs hf
                            refine j_rdS E hX hbl hbA ev144 dL_law_586 ?_
                            obtain ⟨k145, hf⟩ := ck_spec hf
                            obtain ⟨⟨h146, v147⟩, e148, hf⟩ := bs hf
                            refine j_callV (ci := 4) (b := x1) (As := [.int v144]) (rest := []) (v := (some (.int v147))) E (c_X5_prune l D ad cy h x1 v144 e148) (mcwL E.1.2.2.2.2 uw_2_47 uw_2_44 uw_2_45 uw_2_46 uw_1_1 rfl rfl hd_X5_prune ⟨by decide, by decide⟩) rfl k145 rfl rfl (Nat.le_of_ble_eq_true rfl) dL_law_587 ⟨by decide, by decide⟩ ?_
                            refine j_stk (st' := [.int v147]) rfl ?_
                            refine j_aload_n E 2 rfl dL_law_590 rfl ?_
                            refine j_aload_n E 0 rfl dL_law_591 rfl ?_
                            refine j_iload_n E 3 rfl dL_law_592 rfl ?_
                            refine j_iconst (v := 1) E dL_law_593 (by decide) ?_
                            refine j_iadd E dL_law_594 ?_
                            obtain ⟨v149, ev149, hf⟩ := bs hf
                            refine j_rdS E hX hbl hbA ev149 dL_law_595 ?_
                            obtain ⟨k150, hf⟩ := ck_spec hf
                            obtain ⟨⟨h151, v152⟩, e153, hf⟩ := bs hf
                            refine j_callV (ci := 5) (b := x2) (As := [.int v149]) (rest := [.int v147]) (v := (some (.int v152))) E (c_X6_prune l D ad cy h146 x2 v149 e153) (mcwL E.1.2.2.2.2 uw_3_229 uw_3_226 uw_3_227 uw_3_228 uw_1_6 rfl rfl hd_X6_prune ⟨by decide, by decide⟩) rfl k150 rfl rfl (Nat.le_of_ble_eq_true rfl) dL_law_596 ⟨by decide, by decide⟩ ?_
                            refine j_stk (st' := [.int v152, .int v147]) rfl ?_
                            refine j_icmp_eq (tgt := 1420) E dL_law_599 (by decide) (fun z154 => ?_) (fun z154 => ?_)
                            · have hf := ifp hf z154
                              refine j_iinc (v := (x3 + 8)) (k0 := 3) (lv' := [(3, .int (x3 + 8)), (0, .ref b), (1, .ref (ad x1)), (2, .ref (ad x2))]) E dL_law_1420 rfl (congrArg (fun z => x3 + z) (by decide)) (by decide) rfl ?_
                              refine j_goto (tgt := 18) E dL_law_1423 (by decide) ?_
                              refine j_perm (lv' := [(0, .ref b), (1, .ref (ad x1)), (2, .ref (ad x2)), (3, .int (x3 + 8))]) [1, 2, 3, 0] rfl ?_
                              exact ih k h151 (x3 + 8) hk hf
                            · have hf := ifn hf z154
                              refine j_iconst (v := 0) E dL_law_602 (by decide) ?_
                              exact absurd (Option.some.inj hf) (by decide)
                          · have hf := ifn hf z143
                            by_cases z155 : (v2 &&& 31) = 11
                            · have hf := ifp hf z155
                              refine j_tabIn (off := 571) (tgt := 604) E dL_law_33 (by rw [z155]; decide) (by rw [z155]; decide) (by rw [z155]; decide) (by decide) ?_
                              refine j_aload_n E 1 rfl dL_law_604 rfl ?_
                              refine j_aload_n E 0 rfl dL_law_605 rfl ?_
                              refine j_iload_n E 3 rfl dL_law_606 rfl ?_
                              refine j_iconst (v := 1) E dL_law_607 (by decide) ?_
                              refine j_iadd E dL_law_608 ?_
                              obtain ⟨v156, ev156, hf⟩ := bs hf
                              refine j_rdS E hX hbl hbA ev156 dL_law_609 ?_
                              refine j_aload_n E 0 rfl dL_law_610 rfl ?_
                              refine j_iload_n E 3 rfl dL_law_611 rfl ?_
                              refine j_iconst (v := 2) E dL_law_612 (by decide) ?_
                              refine j_iadd E dL_law_613 ?_
                              obtain ⟨v157, ev157, hf⟩ := bs hf
                              refine j_rdS E hX hbl hbA ev157 dL_law_614 ?_
                              refine j_aload_n E 0 rfl dL_law_615 rfl ?_
                              refine j_iload_n E 3 rfl dL_law_616 rfl ?_
                              refine j_iconst (v := 3) E dL_law_617 (by decide) ?_
                              refine j_iadd E dL_law_618 ?_
                              obtain ⟨v158, ev158, hf⟩ := bs hf
                              refine j_rdS E hX hbl hbA ev158 dL_law_619 ?_
                              refine j_aload_n E 0 rfl dL_law_620 rfl ?_
                              refine j_iload_n E 3 rfl dL_law_621 rfl ?_
                              refine j_iconst (v := 4) E dL_law_622 (by decide) ?_
                              refine j_iadd E dL_law_623 ?_
                              obtain ⟨v159, ev159, hf⟩ := bs hf
                              refine j_rdS E hX hbl hbA ev159 dL_law_624 ?_
                              refine j_i2l E dL_law_625 ?_
                              refine j_bipush (v := 32) E dL_law_626 (by decide) ?_
                              refine j_lshl E dL_law_628 ?_
                              refine j_aload_n E 0 rfl dL_law_629 rfl ?_
                              refine j_iload_n E 3 rfl dL_law_630 rfl ?_
                              refine j_iconst (v := 5) E dL_law_631 (by decide) ?_
                              refine j_iadd E dL_law_632 ?_
                              obtain ⟨v160, ev160, hf⟩ := bs hf
                              refine j_rdS E hX hbl hbA ev160 dL_law_633 ?_
                              refine j_i2l E dL_law_634 ?_
                              refine j_ldc2 (v := 4294967295) E uw_4_138 dL_law_635 ?_
                              refine j_land E dL_law_638 ?_
                              refine j_lor E dL_law_639 ?_
                              refine j_aload_n E 0 rfl dL_law_640 rfl ?_
                              refine j_iload_n E 3 rfl dL_law_641 rfl ?_
                              refine j_bipush (v := 6) E dL_law_642 (by decide) ?_
                              refine j_iadd E dL_law_644 ?_
                              obtain ⟨v161, ev161, hf⟩ := bs hf
                              refine j_rdS E hX hbl hbA ev161 dL_law_645 ?_
                              refine j_i2l E dL_law_646 ?_
                              refine j_bipush (v := 32) E dL_law_647 (by decide) ?_
                              refine j_lshl E dL_law_649 ?_
                              refine j_aload_n E 0 rfl dL_law_650 rfl ?_
                              refine j_iload_n E 3 rfl dL_law_651 rfl ?_
                              refine j_bipush (v := 7) E dL_law_652 (by decide) ?_
                              refine j_iadd E dL_law_654 ?_
                              obtain ⟨v162, ev162, hf⟩ := bs hf
                              refine j_rdS E hX hbl hbA ev162 dL_law_655 ?_
                              refine j_i2l E dL_law_656 ?_
                              refine j_ldc2 (v := 4294967295) E uw_4_138 dL_law_657 ?_
                              refine j_land E dL_law_660 ?_
                              refine j_lor E dL_law_661 ?_
                              obtain ⟨k163, hf⟩ := ck_spec hf
                              obtain ⟨⟨h164, v165⟩, e166, hf⟩ := bs hf
                              refine j_callV (ci := 4) (b := x1) (As := [.int v156, .int v157, .int v158, .long (((Int32.toInt64 v159) <<< (Int32.toInt64 32 &&& 63)) ||| ((Int32.toInt64 v160) &&& 4294967295)), .long (((Int32.toInt64 v161) <<< (Int32.toInt64 32 &&& 63)) ||| ((Int32.toInt64 v162) &&& 4294967295))]) (rest := []) (v := (some (.int v165))) E (c_X5_add l D ad cy h x1 v156 v157 v158 (((Int32.toInt64 v159) <<< (Int32.toInt64 32 &&& 63)) ||| ((Int32.toInt64 v160) &&& 4294967295)) (((Int32.toInt64 v161) <<< (Int32.toInt64 32 &&& 63)) ||| ((Int32.toInt64 v162) &&& 4294967295)) e166) (mcwL E.1.2.2.2.2 uw_2_60 uw_2_57 uw_2_58 uw_2_59 uw_1_1 rfl rfl hd_X5_add ⟨by decide, by decide⟩) rfl k163 rfl rfl (Nat.le_of_ble_eq_true rfl) dL_law_662 ⟨by decide, by decide⟩ ?_
                              refine j_stk (st' := [.int v165]) rfl ?_
                              refine j_aload_n E 2 rfl dL_law_665 rfl ?_
                              refine j_aload_n E 0 rfl dL_law_666 rfl ?_
                              refine j_iload_n E 3 rfl dL_law_667 rfl ?_
                              refine j_iconst (v := 1) E dL_law_668 (by decide) ?_
                              refine j_iadd E dL_law_669 ?_
                              obtain ⟨v167, ev167, hf⟩ := bs hf
                              refine j_rdS E hX hbl hbA ev167 dL_law_670 ?_
                              refine j_aload_n E 0 rfl dL_law_671 rfl ?_
                              refine j_iload_n E 3 rfl dL_law_672 rfl ?_
                              refine j_iconst (v := 2) E dL_law_673 (by decide) ?_
                              refine j_iadd E dL_law_674 ?_
                              obtain ⟨v168, ev168, hf⟩ := bs hf
                              refine j_rdS E hX hbl hbA ev168 dL_law_675 ?_
                              refine j_aload_n E 0 rfl dL_law_676 rfl ?_
                              refine j_iload_n E 3 rfl dL_law_677 rfl ?_
                              refine j_iconst (v := 3) E dL_law_678 (by decide) ?_
                              refine j_iadd E dL_law_679 ?_
                              obtain ⟨v169, ev169, hf⟩ := bs hf
                              refine j_rdS E hX hbl hbA ev169 dL_law_680 ?_
                              refine j_aload_n E 0 rfl dL_law_681 rfl ?_
                              refine j_iload_n E 3 rfl dL_law_682 rfl ?_
                              refine j_iconst (v := 4) E dL_law_683 (by decide) ?_
                              refine j_iadd E dL_law_684 ?_
                              obtain ⟨v170, ev170, hf⟩ := bs hf
                              refine j_rdS E hX hbl hbA ev170 dL_law_685 ?_
                              refine j_i2l E dL_law_686 ?_
                              refine j_bipush (v := 32) E dL_law_687 (by decide) ?_
                              refine j_lshl E dL_law_689 ?_
                              refine j_aload_n E 0 rfl dL_law_690 rfl ?_
                              refine j_iload_n E 3 rfl dL_law_691 rfl ?_
                              refine j_iconst (v := 5) E dL_law_692 (by decide) ?_
                              refine j_iadd E dL_law_693 ?_
                              obtain ⟨v171, ev171, hf⟩ := bs hf
                              refine j_rdS E hX hbl hbA ev171 dL_law_694 ?_
                              refine j_i2l E dL_law_695 ?_
                              refine j_ldc2 (v := 4294967295) E uw_4_138 dL_law_696 ?_
                              refine j_land E dL_law_699 ?_
                              refine j_lor E dL_law_700 ?_
                              refine j_aload_n E 0 rfl dL_law_701 rfl ?_
                              refine j_iload_n E 3 rfl dL_law_702 rfl ?_
                              refine j_bipush (v := 6) E dL_law_703 (by decide) ?_
                              refine j_iadd E dL_law_705 ?_
                              obtain ⟨v172, ev172, hf⟩ := bs hf
                              refine j_rdS E hX hbl hbA ev172 dL_law_706 ?_
                              refine j_i2l E dL_law_707 ?_
                              refine j_bipush (v := 32) E dL_law_708 (by decide) ?_
                              refine j_lshl E dL_law_710 ?_
                              refine j_aload_n E 0 rfl dL_law_711 rfl ?_
                              refine j_iload_n E 3 rfl dL_law_712 rfl ?_
                              refine j_bipush (v := 7) E dL_law_713 (by decide) ?_
                              refine j_iadd E dL_law_715 ?_
                              obtain ⟨v173, ev173, hf⟩ := bs hf
                              refine j_rdS E hX hbl hbA ev173 dL_law_716 ?_
                              refine j_i2l E dL_law_717 ?_
                              refine j_ldc2 (v := 4294967295) E uw_4_138 dL_law_718 ?_
                              refine j_land E dL_law_721 ?_
                              refine j_lor E dL_law_722 ?_
                              obtain ⟨k174, hf⟩ := ck_spec hf
                              obtain ⟨⟨h175, v176⟩, e177, hf⟩ := bs hf
                              refine j_callV (ci := 5) (b := x2) (As := [.int v167, .int v168, .int v169, .long (((Int32.toInt64 v170) <<< (Int32.toInt64 32 &&& 63)) ||| ((Int32.toInt64 v171) &&& 4294967295)), .long (((Int32.toInt64 v172) <<< (Int32.toInt64 32 &&& 63)) ||| ((Int32.toInt64 v173) &&& 4294967295))]) (rest := [.int v165]) (v := (some (.int v176))) E (c_X6_add l D ad cy h164 x2 v167 v168 v169 (((Int32.toInt64 v170) <<< (Int32.toInt64 32 &&& 63)) ||| ((Int32.toInt64 v171) &&& 4294967295)) (((Int32.toInt64 v172) <<< (Int32.toInt64 32 &&& 63)) ||| ((Int32.toInt64 v173) &&& 4294967295)) e177) (mcwL E.1.2.2.2.2 uw_3_233 uw_3_230 uw_3_231 uw_3_232 uw_1_6 rfl rfl hd_X6_add ⟨by decide, by decide⟩) rfl k174 rfl rfl (Nat.le_of_ble_eq_true rfl) dL_law_723 ⟨by decide, by decide⟩ ?_
                              refine j_stk (st' := [.int v176, .int v165]) rfl ?_
                              refine j_icmp_eq (tgt := 1420) E dL_law_726 (by decide) (fun z178 => ?_) (fun z178 => ?_)
                              · have hf := ifp hf z178
                                refine j_iinc (v := (x3 + 8)) (k0 := 3) (lv' := [(3, .int (x3 + 8)), (0, .ref b), (1, .ref (ad x1)), (2, .ref (ad x2))]) E dL_law_1420 rfl (congrArg (fun z => x3 + z) (by decide)) (by decide) rfl ?_
                                refine j_goto (tgt := 18) E dL_law_1423 (by decide) ?_
                                refine j_perm (lv' := [(0, .ref b), (1, .ref (ad x1)), (2, .ref (ad x2)), (3, .int (x3 + 8))]) [1, 2, 3, 0] rfl ?_
                                exact ih k h175 (x3 + 8) hk hf
                              · have hf := ifn hf z178
                                refine j_iconst (v := 0) E dL_law_729 (by decide) ?_
                                exact absurd (Option.some.inj hf) (by decide)
                            · have hf := ifn hf z155
                              by_cases z179 : (v2 &&& 31) = 12
                              · have hf := ifp hf z179
                                refine j_tabIn (off := 698) (tgt := 731) E dL_law_33 (by rw [z179]; decide) (by rw [z179]; decide) (by rw [z179]; decide) (by decide) ?_
                                refine j_aload_n E 1 rfl dL_law_731 rfl ?_
                                refine j_aload_n E 0 rfl dL_law_732 rfl ?_
                                refine j_iload_n E 3 rfl dL_law_733 rfl ?_
                                refine j_iconst (v := 1) E dL_law_734 (by decide) ?_
                                refine j_iadd E dL_law_735 ?_
                                obtain ⟨v180, ev180, hf⟩ := bs hf
                                refine j_rdS E hX hbl hbA ev180 dL_law_736 ?_
                                refine j_aload_n E 0 rfl dL_law_737 rfl ?_
                                refine j_iload_n E 3 rfl dL_law_738 rfl ?_
                                refine j_iconst (v := 2) E dL_law_739 (by decide) ?_
                                refine j_iadd E dL_law_740 ?_
                                obtain ⟨v181, ev181, hf⟩ := bs hf
                                refine j_rdS E hX hbl hbA ev181 dL_law_741 ?_
                                refine j_aload_n E 0 rfl dL_law_742 rfl ?_
                                refine j_iload_n E 3 rfl dL_law_743 rfl ?_
                                refine j_iconst (v := 3) E dL_law_744 (by decide) ?_
                                refine j_iadd E dL_law_745 ?_
                                obtain ⟨v182, ev182, hf⟩ := bs hf
                                refine j_rdS E hX hbl hbA ev182 dL_law_746 ?_
                                obtain ⟨k183, hf⟩ := ck_spec hf
                                obtain ⟨⟨h184, v185⟩, e186, hf⟩ := bs hf
                                refine j_callV (ci := 4) (b := x1) (As := [.int v180, .int v181, .int v182]) (rest := []) (v := (some (.int v185))) E (c_X5_times l D ad cy h x1 v180 v181 v182 e186) (mcwL E.1.2.2.2.2 uw_2_73 uw_2_70 uw_2_71 uw_2_72 uw_1_1 rfl rfl hd_X5_times ⟨by decide, by decide⟩) rfl k183 rfl rfl (Nat.le_of_ble_eq_true rfl) dL_law_747 ⟨by decide, by decide⟩ ?_
                                refine j_stk (st' := [.int v185]) rfl ?_
                                refine j_aload_n E 2 rfl dL_law_750 rfl ?_
                                refine j_aload_n E 0 rfl dL_law_751 rfl ?_
                                refine j_iload_n E 3 rfl dL_law_752 rfl ?_
                                refine j_iconst (v := 1) E dL_law_753 (by decide) ?_
                                refine j_iadd E dL_law_754 ?_
                                obtain ⟨v187, ev187, hf⟩ := bs hf
                                refine j_rdS E hX hbl hbA ev187 dL_law_755 ?_
                                refine j_aload_n E 0 rfl dL_law_756 rfl ?_
                                refine j_iload_n E 3 rfl dL_law_757 rfl ?_
                                refine j_iconst (v := 2) E dL_law_758 (by decide) ?_
                                refine j_iadd E dL_law_759 ?_
                                obtain ⟨v188, ev188, hf⟩ := bs hf
                                refine j_rdS E hX hbl hbA ev188 dL_law_760 ?_
                                refine j_aload_n E 0 rfl dL_law_761 rfl ?_
                                refine j_iload_n E 3 rfl dL_law_762 rfl ?_
                                refine j_iconst (v := 3) E dL_law_763 (by decide) ?_
                                refine j_iadd E dL_law_764 ?_
                                obtain ⟨v189, ev189, hf⟩ := bs hf
                                refine j_rdS E hX hbl hbA ev189 dL_law_765 ?_
                                obtain ⟨k190, hf⟩ := ck_spec hf
                                obtain ⟨⟨h191, v192⟩, e193, hf⟩ := bs hf
                                refine j_callV (ci := 5) (b := x2) (As := [.int v187, .int v188, .int v189]) (rest := [.int v185]) (v := (some (.int v192))) E (c_X6_times l D ad cy h184 x2 v187 v188 v189 e193) (mcwL E.1.2.2.2.2 uw_4_5 uw_4_2 uw_4_3 uw_4_4 uw_1_6 rfl rfl hd_X6_times ⟨by decide, by decide⟩) rfl k190 rfl rfl (Nat.le_of_ble_eq_true rfl) dL_law_766 ⟨by decide, by decide⟩ ?_
                                refine j_stk (st' := [.int v192, .int v185]) rfl ?_
                                refine j_icmp_eq (tgt := 1420) E dL_law_769 (by decide) (fun z194 => ?_) (fun z194 => ?_)
                                · have hf := ifp hf z194
                                  refine j_iinc (v := (x3 + 8)) (k0 := 3) (lv' := [(3, .int (x3 + 8)), (0, .ref b), (1, .ref (ad x1)), (2, .ref (ad x2))]) E dL_law_1420 rfl (congrArg (fun z => x3 + z) (by decide)) (by decide) rfl ?_
                                  refine j_goto (tgt := 18) E dL_law_1423 (by decide) ?_
                                  refine j_perm (lv' := [(0, .ref b), (1, .ref (ad x1)), (2, .ref (ad x2)), (3, .int (x3 + 8))]) [1, 2, 3, 0] rfl ?_
                                  exact ih k h191 (x3 + 8) hk hf
                                · have hf := ifn hf z194
                                  refine j_iconst (v := 0) E dL_law_772 (by decide) ?_
                                  exact absurd (Option.some.inj hf) (by decide)
                              · have hf := ifn hf z179
                                by_cases z195 : (v2 &&& 31) = 13
                                · have hf := ifp hf z195
                                  refine j_tabIn (off := 741) (tgt := 774) E dL_law_33 (by rw [z195]; decide) (by rw [z195]; decide) (by rw [z195]; decide) (by decide) ?_
                                  refine j_aload_n E 1 rfl dL_law_774 rfl ?_
                                  refine j_aload_n E 0 rfl dL_law_775 rfl ?_
                                  refine j_iload_n E 3 rfl dL_law_776 rfl ?_
                                  refine j_iconst (v := 1) E dL_law_777 (by decide) ?_
                                  refine j_iadd E dL_law_778 ?_
                                  obtain ⟨v196, ev196, hf⟩ := bs hf
                                  refine j_rdS E hX hbl hbA ev196 dL_law_779 ?_
                                  refine j_aload_n E 0 rfl dL_law_780 rfl ?_
                                  refine j_iload_n E 3 rfl dL_law_781 rfl ?_
                                  refine j_iconst (v := 2) E dL_law_782 (by decide) ?_
                                  refine j_iadd E dL_law_783 ?_
                                  obtain ⟨v197, ev197, hf⟩ := bs hf
                                  refine j_rdS E hX hbl hbA ev197 dL_law_784 ?_
                                  refine j_aload_n E 0 rfl dL_law_785 rfl ?_
                                  refine j_iload_n E 3 rfl dL_law_786 rfl ?_
                                  refine j_iconst (v := 3) E dL_law_787 (by decide) ?_
                                  refine j_iadd E dL_law_788 ?_
                                  obtain ⟨v198, ev198, hf⟩ := bs hf
                                  refine j_rdS E hX hbl hbA ev198 dL_law_789 ?_
                                  obtain ⟨k199, hf⟩ := ck_spec hf
                                  obtain ⟨⟨h200, v201⟩, e202, hf⟩ := bs hf
                                  refine j_callV (ci := 4) (b := x1) (As := [.int v196, .int v197, .int v198]) (rest := []) (v := (some (.int v201))) E (c_X5_each l D ad cy h x1 v196 v197 v198 e202) (mcwL E.1.2.2.2.2 uw_2_86 uw_2_83 uw_2_84 uw_2_85 uw_1_1 rfl rfl hd_X5_each ⟨by decide, by decide⟩) rfl k199 rfl rfl (Nat.le_of_ble_eq_true rfl) dL_law_790 ⟨by decide, by decide⟩ ?_
                                  refine j_stk (st' := [.int v201]) rfl ?_
                                  refine j_aload_n E 2 rfl dL_law_793 rfl ?_
                                  refine j_aload_n E 0 rfl dL_law_794 rfl ?_
                                  refine j_iload_n E 3 rfl dL_law_795 rfl ?_
                                  refine j_iconst (v := 1) E dL_law_796 (by decide) ?_
                                  refine j_iadd E dL_law_797 ?_
                                  obtain ⟨v203, ev203, hf⟩ := bs hf
                                  refine j_rdS E hX hbl hbA ev203 dL_law_798 ?_
                                  refine j_aload_n E 0 rfl dL_law_799 rfl ?_
                                  refine j_iload_n E 3 rfl dL_law_800 rfl ?_
                                  refine j_iconst (v := 2) E dL_law_801 (by decide) ?_
                                  refine j_iadd E dL_law_802 ?_
                                  obtain ⟨v204, ev204, hf⟩ := bs hf
                                  refine j_rdS E hX hbl hbA ev204 dL_law_803 ?_
                                  refine j_aload_n E 0 rfl dL_law_804 rfl ?_
                                  refine j_iload_n E 3 rfl dL_law_805 rfl ?_
                                  refine j_iconst (v := 3) E dL_law_806 (by decide) ?_
                                  refine j_iadd E dL_law_807 ?_
                                  obtain ⟨v205, ev205, hf⟩ := bs hf
                                  refine j_rdS E hX hbl hbA ev205 dL_law_808 ?_
                                  obtain ⟨k206, hf⟩ := ck_spec hf
                                  obtain ⟨⟨h207, v208⟩, e209, hf⟩ := bs hf
                                  refine j_callV (ci := 5) (b := x2) (As := [.int v203, .int v204, .int v205]) (rest := [.int v201]) (v := (some (.int v208))) E (c_X6_each l D ad cy h200 x2 v203 v204 v205 e209) (mcwL E.1.2.2.2.2 uw_4_9 uw_4_6 uw_4_7 uw_4_8 uw_1_6 rfl rfl hd_X6_each ⟨by decide, by decide⟩) rfl k206 rfl rfl (Nat.le_of_ble_eq_true rfl) dL_law_809 ⟨by decide, by decide⟩ ?_
                                  refine j_stk (st' := [.int v208, .int v201]) rfl ?_
                                  refine j_icmp_eq (tgt := 1420) E dL_law_812 (by decide) (fun z210 => ?_) (fun z210 => ?_)
                                  · have hf := ifp hf z210
                                    refine j_iinc (v := (x3 + 8)) (k0 := 3) (lv' := [(3, .int (x3 + 8)), (0, .ref b), (1, .ref (ad x1)), (2, .ref (ad x2))]) E dL_law_1420 rfl (congrArg (fun z => x3 + z) (by decide)) (by decide) rfl ?_
                                    refine j_goto (tgt := 18) E dL_law_1423 (by decide) ?_
                                    refine j_perm (lv' := [(0, .ref b), (1, .ref (ad x1)), (2, .ref (ad x2)), (3, .int (x3 + 8))]) [1, 2, 3, 0] rfl ?_
                                    exact ih k h207 (x3 + 8) hk hf
                                  · have hf := ifn hf z210
                                    refine j_iconst (v := 0) E dL_law_815 (by decide) ?_
                                    exact absurd (Option.some.inj hf) (by decide)
                                · have hf := ifn hf z195
                                  by_cases z211 : (v2 &&& 31) = 14
                                  · have hf := ifp hf z211
                                    refine j_tabIn (off := 784) (tgt := 817) E dL_law_33 (by rw [z211]; decide) (by rw [z211]; decide) (by rw [z211]; decide) (by decide) ?_
                                    refine j_aload_n E 1 rfl dL_law_817 rfl ?_
                                    refine j_aload_n E 0 rfl dL_law_818 rfl ?_
                                    refine j_iload_n E 3 rfl dL_law_819 rfl ?_
                                    refine j_iconst (v := 1) E dL_law_820 (by decide) ?_
                                    refine j_iadd E dL_law_821 ?_
                                    obtain ⟨v212, ev212, hf⟩ := bs hf
                                    refine j_rdS E hX hbl hbA ev212 dL_law_822 ?_
                                    refine j_aload_n E 0 rfl dL_law_823 rfl ?_
                                    refine j_iload_n E 3 rfl dL_law_824 rfl ?_
                                    refine j_iconst (v := 2) E dL_law_825 (by decide) ?_
                                    refine j_iadd E dL_law_826 ?_
                                    obtain ⟨v213, ev213, hf⟩ := bs hf
                                    refine j_rdS E hX hbl hbA ev213 dL_law_827 ?_
                                    refine j_aload_n E 0 rfl dL_law_828 rfl ?_
                                    refine j_iload_n E 3 rfl dL_law_829 rfl ?_
                                    refine j_iconst (v := 3) E dL_law_830 (by decide) ?_
                                    refine j_iadd E dL_law_831 ?_
                                    obtain ⟨v214, ev214, hf⟩ := bs hf
                                    refine j_rdS E hX hbl hbA ev214 dL_law_832 ?_
                                    refine j_aload_n E 0 rfl dL_law_833 rfl ?_
                                    refine j_iload_n E 3 rfl dL_law_834 rfl ?_
                                    refine j_iconst (v := 4) E dL_law_835 (by decide) ?_
                                    refine j_iadd E dL_law_836 ?_
                                    obtain ⟨v215, ev215, hf⟩ := bs hf
                                    refine j_rdS E hX hbl hbA ev215 dL_law_837 ?_
                                    refine j_if_eq (tgt := 845) E dL_law_838 (by decide) (fun z216 => ?_) (fun z216 => ?_)
                                    · have hf := ifp hf z216
                                      refine j_iconst (v := 0) E dL_law_845 (by decide) ?_
                                      obtain ⟨k217, hf⟩ := ck_spec hf
                                      obtain ⟨⟨h218, v219⟩, e220, hf⟩ := bs hf
                                      refine j_callV (ci := 4) (b := x1) (As := [.int v212, .int v213, .int v214, .int 0]) (rest := []) (v := (some (.int v219))) E (c_X5_mask l D ad cy h x1 v212 v213 v214 0 e220) (mcwL E.1.2.2.2.2 uw_2_94 uw_2_91 uw_2_92 uw_2_93 uw_1_1 rfl rfl hd_X5_mask ⟨by decide, by decide⟩) rfl k217 rfl rfl (Nat.le_of_ble_eq_true rfl) dL_law_846 ⟨by decide, by decide⟩ ?_
                                      refine j_stk (st' := [.int v219]) rfl ?_
                                      refine j_aload_n E 2 rfl dL_law_849 rfl ?_
                                      refine j_aload_n E 0 rfl dL_law_850 rfl ?_
                                      refine j_iload_n E 3 rfl dL_law_851 rfl ?_
                                      refine j_iconst (v := 1) E dL_law_852 (by decide) ?_
                                      refine j_iadd E dL_law_853 ?_
                                      obtain ⟨v221, ev221, hf⟩ := bs hf
                                      refine j_rdS E hX hbl hbA ev221 dL_law_854 ?_
                                      refine j_aload_n E 0 rfl dL_law_855 rfl ?_
                                      refine j_iload_n E 3 rfl dL_law_856 rfl ?_
                                      refine j_iconst (v := 2) E dL_law_857 (by decide) ?_
                                      refine j_iadd E dL_law_858 ?_
                                      obtain ⟨v222, ev222, hf⟩ := bs hf
                                      refine j_rdS E hX hbl hbA ev222 dL_law_859 ?_
                                      refine j_aload_n E 0 rfl dL_law_860 rfl ?_
                                      refine j_iload_n E 3 rfl dL_law_861 rfl ?_
                                      refine j_iconst (v := 3) E dL_law_862 (by decide) ?_
                                      refine j_iadd E dL_law_863 ?_
                                      obtain ⟨v223, ev223, hf⟩ := bs hf
                                      refine j_rdS E hX hbl hbA ev223 dL_law_864 ?_
                                      refine j_aload_n E 0 rfl dL_law_865 rfl ?_
                                      refine j_iload_n E 3 rfl dL_law_866 rfl ?_
                                      refine j_iconst (v := 4) E dL_law_867 (by decide) ?_
                                      refine j_iadd E dL_law_868 ?_
                                      obtain ⟨v224, ev224, hf⟩ := bs hf
                                      refine j_rdS E hX hbl hbA ev224 dL_law_869 ?_
                                      refine j_if_eq (tgt := 877) E dL_law_870 (by decide) (fun z225 => ?_) (fun z225 => ?_)
                                      · have hf := ifp hf z225
                                        refine j_iconst (v := 0) E dL_law_877 (by decide) ?_
                                        obtain ⟨k226, hf⟩ := ck_spec hf
                                        obtain ⟨⟨h227, v228⟩, e229, hf⟩ := bs hf
                                        refine j_callV (ci := 5) (b := x2) (As := [.int v221, .int v222, .int v223, .int 0]) (rest := [.int v219]) (v := (some (.int v228))) E (c_X6_mask l D ad cy h218 x2 v221 v222 v223 0 e229) (mcwL E.1.2.2.2.2 uw_4_13 uw_4_10 uw_4_11 uw_4_12 uw_1_6 rfl rfl hd_X6_mask ⟨by decide, by decide⟩) rfl k226 rfl rfl (Nat.le_of_ble_eq_true rfl) dL_law_878 ⟨by decide, by decide⟩ ?_
                                        refine j_stk (st' := [.int v228, .int v219]) rfl ?_
                                        refine j_icmp_eq (tgt := 1420) E dL_law_881 (by decide) (fun z230 => ?_) (fun z230 => ?_)
                                        · have hf := ifp hf z230
                                          refine j_iinc (v := (x3 + 8)) (k0 := 3) (lv' := [(3, .int (x3 + 8)), (0, .ref b), (1, .ref (ad x1)), (2, .ref (ad x2))]) E dL_law_1420 rfl (congrArg (fun z => x3 + z) (by decide)) (by decide) rfl ?_
                                          refine j_goto (tgt := 18) E dL_law_1423 (by decide) ?_
                                          refine j_perm (lv' := [(0, .ref b), (1, .ref (ad x1)), (2, .ref (ad x2)), (3, .int (x3 + 8))]) [1, 2, 3, 0] rfl ?_
                                          exact ih k h227 (x3 + 8) hk hf
                                        · have hf := ifn hf z230
                                          refine j_iconst (v := 0) E dL_law_884 (by decide) ?_
                                          exact absurd (Option.some.inj hf) (by decide)
                                      · have hf := ifn hf z225
                                        refine j_iconst (v := 1) E dL_law_873 (by decide) ?_
                                        refine j_goto (tgt := 878) E dL_law_874 (by decide) ?_
                                        obtain ⟨k231, hf⟩ := ck_spec hf
                                        obtain ⟨⟨h232, v233⟩, e234, hf⟩ := bs hf
                                        refine j_callV (ci := 5) (b := x2) (As := [.int v221, .int v222, .int v223, .int 1]) (rest := [.int v219]) (v := (some (.int v233))) E (c_X6_mask l D ad cy h218 x2 v221 v222 v223 1 e234) (mcwL E.1.2.2.2.2 uw_4_13 uw_4_10 uw_4_11 uw_4_12 uw_1_6 rfl rfl hd_X6_mask ⟨by decide, by decide⟩) rfl k231 rfl rfl (Nat.le_of_ble_eq_true rfl) dL_law_878 ⟨by decide, by decide⟩ ?_
                                        refine j_stk (st' := [.int v233, .int v219]) rfl ?_
                                        refine j_icmp_eq (tgt := 1420) E dL_law_881 (by decide) (fun z235 => ?_) (fun z235 => ?_)
                                        · have hf := ifp hf z235
                                          refine j_iinc (v := (x3 + 8)) (k0 := 3) (lv' := [(3, .int (x3 + 8)), (0, .ref b), (1, .ref (ad x1)), (2, .ref (ad x2))]) E dL_law_1420 rfl (congrArg (fun z => x3 + z) (by decide)) (by decide) rfl ?_
                                          refine j_goto (tgt := 18) E dL_law_1423 (by decide) ?_
                                          refine j_perm (lv' := [(0, .ref b), (1, .ref (ad x1)), (2, .ref (ad x2)), (3, .int (x3 + 8))]) [1, 2, 3, 0] rfl ?_
                                          exact ih k h232 (x3 + 8) hk hf
                                        · have hf := ifn hf z235
                                          refine j_iconst (v := 0) E dL_law_884 (by decide) ?_
                                          exact absurd (Option.some.inj hf) (by decide)
                                    · have hf := ifn hf z216
                                      refine j_iconst (v := 1) E dL_law_841 (by decide) ?_
                                      refine j_goto (tgt := 846) E dL_law_842 (by decide) ?_
                                      obtain ⟨k236, hf⟩ := ck_spec hf
                                      obtain ⟨⟨h237, v238⟩, e239, hf⟩ := bs hf
                                      refine j_callV (ci := 4) (b := x1) (As := [.int v212, .int v213, .int v214, .int 1]) (rest := []) (v := (some (.int v238))) E (c_X5_mask l D ad cy h x1 v212 v213 v214 1 e239) (mcwL E.1.2.2.2.2 uw_2_94 uw_2_91 uw_2_92 uw_2_93 uw_1_1 rfl rfl hd_X5_mask ⟨by decide, by decide⟩) rfl k236 rfl rfl (Nat.le_of_ble_eq_true rfl) dL_law_846 ⟨by decide, by decide⟩ ?_
                                      refine j_stk (st' := [.int v238]) rfl ?_
                                      refine j_aload_n E 2 rfl dL_law_849 rfl ?_
                                      refine j_aload_n E 0 rfl dL_law_850 rfl ?_
                                      refine j_iload_n E 3 rfl dL_law_851 rfl ?_
                                      refine j_iconst (v := 1) E dL_law_852 (by decide) ?_
                                      refine j_iadd E dL_law_853 ?_
                                      obtain ⟨v240, ev240, hf⟩ := bs hf
                                      refine j_rdS E hX hbl hbA ev240 dL_law_854 ?_
                                      refine j_aload_n E 0 rfl dL_law_855 rfl ?_
                                      refine j_iload_n E 3 rfl dL_law_856 rfl ?_
                                      refine j_iconst (v := 2) E dL_law_857 (by decide) ?_
                                      refine j_iadd E dL_law_858 ?_
                                      obtain ⟨v241, ev241, hf⟩ := bs hf
                                      refine j_rdS E hX hbl hbA ev241 dL_law_859 ?_
                                      refine j_aload_n E 0 rfl dL_law_860 rfl ?_
                                      refine j_iload_n E 3 rfl dL_law_861 rfl ?_
                                      refine j_iconst (v := 3) E dL_law_862 (by decide) ?_
                                      refine j_iadd E dL_law_863 ?_
                                      obtain ⟨v242, ev242, hf⟩ := bs hf
                                      refine j_rdS E hX hbl hbA ev242 dL_law_864 ?_
                                      refine j_aload_n E 0 rfl dL_law_865 rfl ?_
                                      refine j_iload_n E 3 rfl dL_law_866 rfl ?_
                                      refine j_iconst (v := 4) E dL_law_867 (by decide) ?_
                                      refine j_iadd E dL_law_868 ?_
                                      obtain ⟨v243, ev243, hf⟩ := bs hf
                                      refine j_rdS E hX hbl hbA ev243 dL_law_869 ?_
                                      refine j_if_eq (tgt := 877) E dL_law_870 (by decide) (fun z244 => ?_) (fun z244 => ?_)
                                      · have hf := ifp hf z244
                                        refine j_iconst (v := 0) E dL_law_877 (by decide) ?_
                                        obtain ⟨k245, hf⟩ := ck_spec hf
                                        obtain ⟨⟨h246, v247⟩, e248, hf⟩ := bs hf
                                        refine j_callV (ci := 5) (b := x2) (As := [.int v240, .int v241, .int v242, .int 0]) (rest := [.int v238]) (v := (some (.int v247))) E (c_X6_mask l D ad cy h237 x2 v240 v241 v242 0 e248) (mcwL E.1.2.2.2.2 uw_4_13 uw_4_10 uw_4_11 uw_4_12 uw_1_6 rfl rfl hd_X6_mask ⟨by decide, by decide⟩) rfl k245 rfl rfl (Nat.le_of_ble_eq_true rfl) dL_law_878 ⟨by decide, by decide⟩ ?_
                                        refine j_stk (st' := [.int v247, .int v238]) rfl ?_
                                        refine j_icmp_eq (tgt := 1420) E dL_law_881 (by decide) (fun z249 => ?_) (fun z249 => ?_)
                                        · have hf := ifp hf z249
                                          refine j_iinc (v := (x3 + 8)) (k0 := 3) (lv' := [(3, .int (x3 + 8)), (0, .ref b), (1, .ref (ad x1)), (2, .ref (ad x2))]) E dL_law_1420 rfl (congrArg (fun z => x3 + z) (by decide)) (by decide) rfl ?_
                                          refine j_goto (tgt := 18) E dL_law_1423 (by decide) ?_
                                          refine j_perm (lv' := [(0, .ref b), (1, .ref (ad x1)), (2, .ref (ad x2)), (3, .int (x3 + 8))]) [1, 2, 3, 0] rfl ?_
                                          exact ih k h246 (x3 + 8) hk hf
                                        · have hf := ifn hf z249
                                          refine j_iconst (v := 0) E dL_law_884 (by decide) ?_
                                          exact absurd (Option.some.inj hf) (by decide)
                                      · have hf := ifn hf z244
                                        refine j_iconst (v := 1) E dL_law_873 (by decide) ?_
                                        refine j_goto (tgt := 878) E dL_law_874 (by decide) ?_
                                        obtain ⟨k250, hf⟩ := ck_spec hf
                                        obtain ⟨⟨h251, v252⟩, e253, hf⟩ := bs hf
                                        refine j_callV (ci := 5) (b := x2) (As := [.int v240, .int v241, .int v242, .int 1]) (rest := [.int v238]) (v := (some (.int v252))) E (c_X6_mask l D ad cy h237 x2 v240 v241 v242 1 e253) (mcwL E.1.2.2.2.2 uw_4_13 uw_4_10 uw_4_11 uw_4_12 uw_1_6 rfl rfl hd_X6_mask ⟨by decide, by decide⟩) rfl k250 rfl rfl (Nat.le_of_ble_eq_true rfl) dL_law_878 ⟨by decide, by decide⟩ ?_
                                        refine j_stk (st' := [.int v252, .int v238]) rfl ?_
                                        refine j_icmp_eq (tgt := 1420) E dL_law_881 (by decide) (fun z254 => ?_) (fun z254 => ?_)
                                        · have hf := ifp hf z254
                                          refine j_iinc (v := (x3 + 8)) (k0 := 3) (lv' := [(3, .int (x3 + 8)), (0, .ref b), (1, .ref (ad x1)), (2, .ref (ad x2))]) E dL_law_1420 rfl (congrArg (fun z => x3 + z) (by decide)) (by decide) rfl ?_
                                          refine j_goto (tgt := 18) E dL_law_1423 (by decide) ?_
                                          refine j_perm (lv' := [(0, .ref b), (1, .ref (ad x1)), (2, .ref (ad x2)), (3, .int (x3 + 8))]) [1, 2, 3, 0] rfl ?_
                                          exact ih k h251 (x3 + 8) hk hf
                                        · have hf := ifn hf z254
                                          refine j_iconst (v := 0) E dL_law_884 (by decide) ?_
                                          exact absurd (Option.some.inj hf) (by decide)
                                  · have hf := ifn hf z211
                                    by_cases z255 : (v2 &&& 31) = 15
                                    · have hf := ifp hf z255
                                      refine j_tabIn (off := 853) (tgt := 886) E dL_law_33 (by rw [z255]; decide) (by rw [z255]; decide) (by rw [z255]; decide) (by decide) ?_
                                      refine j_aload_n E 1 rfl dL_law_886 rfl ?_
                                      refine j_aload_n E 0 rfl dL_law_887 rfl ?_
                                      refine j_iload_n E 3 rfl dL_law_888 rfl ?_
                                      refine j_iconst (v := 1) E dL_law_889 (by decide) ?_
                                      refine j_iadd E dL_law_890 ?_
                                      obtain ⟨v256, ev256, hf⟩ := bs hf
                                      refine j_rdS E hX hbl hbA ev256 dL_law_891 ?_
                                      refine j_aload_n E 0 rfl dL_law_892 rfl ?_
                                      refine j_iload_n E 3 rfl dL_law_893 rfl ?_
                                      refine j_iconst (v := 2) E dL_law_894 (by decide) ?_
                                      refine j_iadd E dL_law_895 ?_
                                      obtain ⟨v257, ev257, hf⟩ := bs hf
                                      refine j_rdS E hX hbl hbA ev257 dL_law_896 ?_
                                      obtain ⟨k258, hf⟩ := ck_spec hf
                                      obtain ⟨⟨h259, v260⟩, e261, hf⟩ := bs hf
                                      refine j_callV (ci := 4) (b := x1) (As := [.int v256, .int v257]) (rest := []) (v := (some (.int v260))) E (c_X5_turn l D ad cy h x1 v256 v257 e261) (mcwL E.1.2.2.2.2 uw_2_102 uw_2_99 uw_2_100 uw_2_101 uw_1_1 rfl rfl hd_X5_turn ⟨by decide, by decide⟩) rfl k258 rfl rfl (Nat.le_of_ble_eq_true rfl) dL_law_897 ⟨by decide, by decide⟩ ?_
                                      refine j_stk (st' := [.int v260]) rfl ?_
                                      refine j_aload_n E 2 rfl dL_law_900 rfl ?_
                                      refine j_aload_n E 0 rfl dL_law_901 rfl ?_
                                      refine j_iload_n E 3 rfl dL_law_902 rfl ?_
                                      refine j_iconst (v := 1) E dL_law_903 (by decide) ?_
                                      refine j_iadd E dL_law_904 ?_
                                      obtain ⟨v262, ev262, hf⟩ := bs hf
                                      refine j_rdS E hX hbl hbA ev262 dL_law_905 ?_
                                      refine j_aload_n E 0 rfl dL_law_906 rfl ?_
                                      refine j_iload_n E 3 rfl dL_law_907 rfl ?_
                                      refine j_iconst (v := 2) E dL_law_908 (by decide) ?_
                                      refine j_iadd E dL_law_909 ?_
                                      obtain ⟨v263, ev263, hf⟩ := bs hf
                                      refine j_rdS E hX hbl hbA ev263 dL_law_910 ?_
                                      obtain ⟨k264, hf⟩ := ck_spec hf
                                      obtain ⟨⟨h265, v266⟩, e267, hf⟩ := bs hf
                                      refine j_callV (ci := 5) (b := x2) (As := [.int v262, .int v263]) (rest := [.int v260]) (v := (some (.int v266))) E (c_X6_turn l D ad cy h259 x2 v262 v263 e267) (mcwL E.1.2.2.2.2 uw_4_17 uw_4_14 uw_4_15 uw_4_16 uw_1_6 rfl rfl hd_X6_turn ⟨by decide, by decide⟩) rfl k264 rfl rfl (Nat.le_of_ble_eq_true rfl) dL_law_911 ⟨by decide, by decide⟩ ?_
                                      refine j_stk (st' := [.int v266, .int v260]) rfl ?_
                                      refine j_icmp_eq (tgt := 1420) E dL_law_914 (by decide) (fun z268 => ?_) (fun z268 => ?_)
                                      · have hf := ifp hf z268
                                        refine j_iinc (v := (x3 + 8)) (k0 := 3) (lv' := [(3, .int (x3 + 8)), (0, .ref b), (1, .ref (ad x1)), (2, .ref (ad x2))]) E dL_law_1420 rfl (congrArg (fun z => x3 + z) (by decide)) (by decide) rfl ?_
                                        refine j_goto (tgt := 18) E dL_law_1423 (by decide) ?_
                                        refine j_perm (lv' := [(0, .ref b), (1, .ref (ad x1)), (2, .ref (ad x2)), (3, .int (x3 + 8))]) [1, 2, 3, 0] rfl ?_
                                        exact ih k h265 (x3 + 8) hk hf
                                      · have hf := ifn hf z268
                                        refine j_iconst (v := 0) E dL_law_917 (by decide) ?_
                                        exact absurd (Option.some.inj hf) (by decide)
                                    · have hf := ifn hf z255
                                      by_cases z269 : (v2 &&& 31) = 16
                                      · have hf := ifp hf z269
                                        refine j_tabIn (off := 886) (tgt := 919) E dL_law_33 (by rw [z269]; decide) (by rw [z269]; decide) (by rw [z269]; decide) (by decide) ?_
                                        refine j_aload_n E 1 rfl dL_law_919 rfl ?_
                                        refine j_aload_n E 0 rfl dL_law_920 rfl ?_
                                        refine j_iload_n E 3 rfl dL_law_921 rfl ?_
                                        refine j_iconst (v := 1) E dL_law_922 (by decide) ?_
                                        refine j_iadd E dL_law_923 ?_
                                        obtain ⟨v270, ev270, hf⟩ := bs hf
                                        refine j_rdS E hX hbl hbA ev270 dL_law_924 ?_
                                        refine j_aload_n E 0 rfl dL_law_925 rfl ?_
                                        refine j_iload_n E 3 rfl dL_law_926 rfl ?_
                                        refine j_iconst (v := 2) E dL_law_927 (by decide) ?_
                                        refine j_iadd E dL_law_928 ?_
                                        obtain ⟨v271, ev271, hf⟩ := bs hf
                                        refine j_rdS E hX hbl hbA ev271 dL_law_929 ?_
                                        obtain ⟨k272, hf⟩ := ck_spec hf
                                        obtain ⟨⟨h273, v274⟩, e275, hf⟩ := bs hf
                                        refine j_callV (ci := 4) (b := x1) (As := [.int v270, .int v271]) (rest := []) (v := (some (.int v274))) E (c_X5_rows l D ad cy h x1 v270 v271 e275) (mcwL E.1.2.2.2.2 uw_2_110 uw_2_107 uw_2_108 uw_2_109 uw_1_1 rfl rfl hd_X5_rows ⟨by decide, by decide⟩) rfl k272 rfl rfl (Nat.le_of_ble_eq_true rfl) dL_law_930 ⟨by decide, by decide⟩ ?_
                                        refine j_stk (st' := [.int v274]) rfl ?_
                                        refine j_aload_n E 2 rfl dL_law_933 rfl ?_
                                        refine j_aload_n E 0 rfl dL_law_934 rfl ?_
                                        refine j_iload_n E 3 rfl dL_law_935 rfl ?_
                                        refine j_iconst (v := 1) E dL_law_936 (by decide) ?_
                                        refine j_iadd E dL_law_937 ?_
                                        obtain ⟨v276, ev276, hf⟩ := bs hf
                                        refine j_rdS E hX hbl hbA ev276 dL_law_938 ?_
                                        refine j_aload_n E 0 rfl dL_law_939 rfl ?_
                                        refine j_iload_n E 3 rfl dL_law_940 rfl ?_
                                        refine j_iconst (v := 2) E dL_law_941 (by decide) ?_
                                        refine j_iadd E dL_law_942 ?_
                                        obtain ⟨v277, ev277, hf⟩ := bs hf
                                        refine j_rdS E hX hbl hbA ev277 dL_law_943 ?_
                                        obtain ⟨k278, hf⟩ := ck_spec hf
                                        obtain ⟨⟨h279, v280⟩, e281, hf⟩ := bs hf
                                        refine j_callV (ci := 5) (b := x2) (As := [.int v276, .int v277]) (rest := [.int v274]) (v := (some (.int v280))) E (c_X6_rows l D ad cy h273 x2 v276 v277 e281) (mcwL E.1.2.2.2.2 uw_4_21 uw_4_18 uw_4_19 uw_4_20 uw_1_6 rfl rfl hd_X6_rows ⟨by decide, by decide⟩) rfl k278 rfl rfl (Nat.le_of_ble_eq_true rfl) dL_law_944 ⟨by decide, by decide⟩ ?_
                                        refine j_stk (st' := [.int v280, .int v274]) rfl ?_
                                        refine j_icmp_eq (tgt := 1420) E dL_law_947 (by decide) (fun z282 => ?_) (fun z282 => ?_)
                                        · have hf := ifp hf z282
                                          refine j_iinc (v := (x3 + 8)) (k0 := 3) (lv' := [(3, .int (x3 + 8)), (0, .ref b), (1, .ref (ad x1)), (2, .ref (ad x2))]) E dL_law_1420 rfl (congrArg (fun z => x3 + z) (by decide)) (by decide) rfl ?_
                                          refine j_goto (tgt := 18) E dL_law_1423 (by decide) ?_
                                          refine j_perm (lv' := [(0, .ref b), (1, .ref (ad x1)), (2, .ref (ad x2)), (3, .int (x3 + 8))]) [1, 2, 3, 0] rfl ?_
                                          exact ih k h279 (x3 + 8) hk hf
                                        · have hf := ifn hf z282
                                          refine j_iconst (v := 0) E dL_law_950 (by decide) ?_
                                          exact absurd (Option.some.inj hf) (by decide)
                                      · have hf := ifn hf z269
                                        by_cases z283 : (v2 &&& 31) = 17
                                        · have hf := ifp hf z283
                                          refine j_tabIn (off := 919) (tgt := 952) E dL_law_33 (by rw [z283]; decide) (by rw [z283]; decide) (by rw [z283]; decide) (by decide) ?_
                                          refine j_aload_n E 1 rfl dL_law_952 rfl ?_
                                          refine j_aload_n E 0 rfl dL_law_953 rfl ?_
                                          refine j_iload_n E 3 rfl dL_law_954 rfl ?_
                                          refine j_iconst (v := 1) E dL_law_955 (by decide) ?_
                                          refine j_iadd E dL_law_956 ?_
                                          obtain ⟨v284, ev284, hf⟩ := bs hf
                                          refine j_rdS E hX hbl hbA ev284 dL_law_957 ?_
                                          refine j_aload_n E 0 rfl dL_law_958 rfl ?_
                                          refine j_iload_n E 3 rfl dL_law_959 rfl ?_
                                          refine j_iconst (v := 2) E dL_law_960 (by decide) ?_
                                          refine j_iadd E dL_law_961 ?_
                                          obtain ⟨v285, ev285, hf⟩ := bs hf
                                          refine j_rdS E hX hbl hbA ev285 dL_law_962 ?_
                                          refine j_aload_n E 0 rfl dL_law_963 rfl ?_
                                          refine j_iload_n E 3 rfl dL_law_964 rfl ?_
                                          refine j_iconst (v := 3) E dL_law_965 (by decide) ?_
                                          refine j_iadd E dL_law_966 ?_
                                          obtain ⟨v286, ev286, hf⟩ := bs hf
                                          refine j_rdS E hX hbl hbA ev286 dL_law_967 ?_
                                          refine j_aload_n E 0 rfl dL_law_968 rfl ?_
                                          refine j_iload_n E 3 rfl dL_law_969 rfl ?_
                                          refine j_iconst (v := 4) E dL_law_970 (by decide) ?_
                                          refine j_iadd E dL_law_971 ?_
                                          obtain ⟨v287, ev287, hf⟩ := bs hf
                                          refine j_rdS E hX hbl hbA ev287 dL_law_972 ?_
                                          refine j_aload_n E 0 rfl dL_law_973 rfl ?_
                                          refine j_iload_n E 3 rfl dL_law_974 rfl ?_
                                          refine j_iconst (v := 5) E dL_law_975 (by decide) ?_
                                          refine j_iadd E dL_law_976 ?_
                                          obtain ⟨v288, ev288, hf⟩ := bs hf
                                          refine j_rdS E hX hbl hbA ev288 dL_law_977 ?_
                                          refine j_if_eq (tgt := 985) E dL_law_978 (by decide) (fun z289 => ?_) (fun z289 => ?_)
                                          · have hf := ifp hf z289
                                            refine j_iconst (v := 0) E dL_law_985 (by decide) ?_
                                            obtain ⟨k290, hf⟩ := ck_spec hf
                                            obtain ⟨⟨h291, v292⟩, e293, hf⟩ := bs hf
                                            refine j_callV (ci := 4) (b := x1) (As := [.int v284, .int v285, .int v286, .int v287, .int 0]) (rest := []) (v := (some (.int v292))) E (c_X5_slopes l D ad cy h x1 v284 v285 v286 v287 0 e293) (mcwL E.1.2.2.2.2 uw_2_127 uw_2_124 uw_2_125 uw_2_126 uw_1_1 rfl rfl hd_X5_slopes ⟨by decide, by decide⟩) rfl k290 rfl rfl (Nat.le_of_ble_eq_true rfl) dL_law_986 ⟨by decide, by decide⟩ ?_
                                            refine j_stk (st' := [.int v292]) rfl ?_
                                            refine j_aload_n E 2 rfl dL_law_989 rfl ?_
                                            refine j_aload_n E 0 rfl dL_law_990 rfl ?_
                                            refine j_iload_n E 3 rfl dL_law_991 rfl ?_
                                            refine j_iconst (v := 1) E dL_law_992 (by decide) ?_
                                            refine j_iadd E dL_law_993 ?_
                                            obtain ⟨v294, ev294, hf⟩ := bs hf
                                            refine j_rdS E hX hbl hbA ev294 dL_law_994 ?_
                                            refine j_aload_n E 0 rfl dL_law_995 rfl ?_
                                            refine j_iload_n E 3 rfl dL_law_996 rfl ?_
                                            refine j_iconst (v := 2) E dL_law_997 (by decide) ?_
                                            refine j_iadd E dL_law_998 ?_
                                            obtain ⟨v295, ev295, hf⟩ := bs hf
                                            refine j_rdS E hX hbl hbA ev295 dL_law_999 ?_
                                            refine j_aload_n E 0 rfl dL_law_1000 rfl ?_
                                            refine j_iload_n E 3 rfl dL_law_1001 rfl ?_
                                            refine j_iconst (v := 3) E dL_law_1002 (by decide) ?_
                                            refine j_iadd E dL_law_1003 ?_
                                            obtain ⟨v296, ev296, hf⟩ := bs hf
                                            refine j_rdS E hX hbl hbA ev296 dL_law_1004 ?_
                                            refine j_aload_n E 0 rfl dL_law_1005 rfl ?_
                                            refine j_iload_n E 3 rfl dL_law_1006 rfl ?_
                                            refine j_iconst (v := 4) E dL_law_1007 (by decide) ?_
                                            refine j_iadd E dL_law_1008 ?_
                                            obtain ⟨v297, ev297, hf⟩ := bs hf
                                            refine j_rdS E hX hbl hbA ev297 dL_law_1009 ?_
                                            refine j_aload_n E 0 rfl dL_law_1010 rfl ?_
                                            refine j_iload_n E 3 rfl dL_law_1011 rfl ?_
                                            refine j_iconst (v := 5) E dL_law_1012 (by decide) ?_
                                            refine j_iadd E dL_law_1013 ?_
                                            obtain ⟨v298, ev298, hf⟩ := bs hf
                                            refine j_rdS E hX hbl hbA ev298 dL_law_1014 ?_
                                            refine j_if_eq (tgt := 1022) E dL_law_1015 (by decide) (fun z299 => ?_) (fun z299 => ?_)
                                            · have hf := ifp hf z299
                                              refine j_iconst (v := 0) E dL_law_1022 (by decide) ?_
                                              obtain ⟨k300, hf⟩ := ck_spec hf
                                              obtain ⟨⟨h301, v302⟩, e303, hf⟩ := bs hf
                                              refine j_callV (ci := 5) (b := x2) (As := [.int v294, .int v295, .int v296, .int v297, .int 0]) (rest := [.int v292]) (v := (some (.int v302))) E (c_X6_slopes l D ad cy h291 x2 v294 v295 v296 v297 0 e303) (mcwL E.1.2.2.2.2 uw_4_25 uw_4_22 uw_4_23 uw_4_24 uw_1_6 rfl rfl hd_X6_slopes ⟨by decide, by decide⟩) rfl k300 rfl rfl (Nat.le_of_ble_eq_true rfl) dL_law_1023 ⟨by decide, by decide⟩ ?_
                                              refine j_stk (st' := [.int v302, .int v292]) rfl ?_
                                              refine j_icmp_eq (tgt := 1420) E dL_law_1026 (by decide) (fun z304 => ?_) (fun z304 => ?_)
                                              · have hf := ifp hf z304
                                                refine j_iinc (v := (x3 + 8)) (k0 := 3) (lv' := [(3, .int (x3 + 8)), (0, .ref b), (1, .ref (ad x1)), (2, .ref (ad x2))]) E dL_law_1420 rfl (congrArg (fun z => x3 + z) (by decide)) (by decide) rfl ?_
                                                refine j_goto (tgt := 18) E dL_law_1423 (by decide) ?_
                                                refine j_perm (lv' := [(0, .ref b), (1, .ref (ad x1)), (2, .ref (ad x2)), (3, .int (x3 + 8))]) [1, 2, 3, 0] rfl ?_
                                                exact ih k h301 (x3 + 8) hk hf
                                              · have hf := ifn hf z304
                                                refine j_iconst (v := 0) E dL_law_1029 (by decide) ?_
                                                exact absurd (Option.some.inj hf) (by decide)
                                            · have hf := ifn hf z299
                                              refine j_iconst (v := 1) E dL_law_1018 (by decide) ?_
                                              refine j_goto (tgt := 1023) E dL_law_1019 (by decide) ?_
                                              obtain ⟨k305, hf⟩ := ck_spec hf
                                              obtain ⟨⟨h306, v307⟩, e308, hf⟩ := bs hf
                                              refine j_callV (ci := 5) (b := x2) (As := [.int v294, .int v295, .int v296, .int v297, .int 1]) (rest := [.int v292]) (v := (some (.int v307))) E (c_X6_slopes l D ad cy h291 x2 v294 v295 v296 v297 1 e308) (mcwL E.1.2.2.2.2 uw_4_25 uw_4_22 uw_4_23 uw_4_24 uw_1_6 rfl rfl hd_X6_slopes ⟨by decide, by decide⟩) rfl k305 rfl rfl (Nat.le_of_ble_eq_true rfl) dL_law_1023 ⟨by decide, by decide⟩ ?_
                                              refine j_stk (st' := [.int v307, .int v292]) rfl ?_
                                              refine j_icmp_eq (tgt := 1420) E dL_law_1026 (by decide) (fun z309 => ?_) (fun z309 => ?_)
                                              · have hf := ifp hf z309
                                                refine j_iinc (v := (x3 + 8)) (k0 := 3) (lv' := [(3, .int (x3 + 8)), (0, .ref b), (1, .ref (ad x1)), (2, .ref (ad x2))]) E dL_law_1420 rfl (congrArg (fun z => x3 + z) (by decide)) (by decide) rfl ?_
                                                refine j_goto (tgt := 18) E dL_law_1423 (by decide) ?_
                                                refine j_perm (lv' := [(0, .ref b), (1, .ref (ad x1)), (2, .ref (ad x2)), (3, .int (x3 + 8))]) [1, 2, 3, 0] rfl ?_
                                                exact ih k h306 (x3 + 8) hk hf
                                              · have hf := ifn hf z309
                                                refine j_iconst (v := 0) E dL_law_1029 (by decide) ?_
                                                exact absurd (Option.some.inj hf) (by decide)
                                          · have hf := ifn hf z289
                                            refine j_iconst (v := 1) E dL_law_981 (by decide) ?_
                                            refine j_goto (tgt := 986) E dL_law_982 (by decide) ?_
                                            obtain ⟨k310, hf⟩ := ck_spec hf
                                            obtain ⟨⟨h311, v312⟩, e313, hf⟩ := bs hf
                                            refine j_callV (ci := 4) (b := x1) (As := [.int v284, .int v285, .int v286, .int v287, .int 1]) (rest := []) (v := (some (.int v312))) E (c_X5_slopes l D ad cy h x1 v284 v285 v286 v287 1 e313) (mcwL E.1.2.2.2.2 uw_2_127 uw_2_124 uw_2_125 uw_2_126 uw_1_1 rfl rfl hd_X5_slopes ⟨by decide, by decide⟩) rfl k310 rfl rfl (Nat.le_of_ble_eq_true rfl) dL_law_986 ⟨by decide, by decide⟩ ?_
                                            refine j_stk (st' := [.int v312]) rfl ?_
                                            refine j_aload_n E 2 rfl dL_law_989 rfl ?_
                                            refine j_aload_n E 0 rfl dL_law_990 rfl ?_
                                            refine j_iload_n E 3 rfl dL_law_991 rfl ?_
                                            refine j_iconst (v := 1) E dL_law_992 (by decide) ?_
                                            refine j_iadd E dL_law_993 ?_
                                            obtain ⟨v314, ev314, hf⟩ := bs hf
                                            refine j_rdS E hX hbl hbA ev314 dL_law_994 ?_
                                            refine j_aload_n E 0 rfl dL_law_995 rfl ?_
                                            refine j_iload_n E 3 rfl dL_law_996 rfl ?_
                                            refine j_iconst (v := 2) E dL_law_997 (by decide) ?_
                                            refine j_iadd E dL_law_998 ?_
                                            obtain ⟨v315, ev315, hf⟩ := bs hf
                                            refine j_rdS E hX hbl hbA ev315 dL_law_999 ?_
                                            refine j_aload_n E 0 rfl dL_law_1000 rfl ?_
                                            refine j_iload_n E 3 rfl dL_law_1001 rfl ?_
                                            refine j_iconst (v := 3) E dL_law_1002 (by decide) ?_
                                            refine j_iadd E dL_law_1003 ?_
                                            obtain ⟨v316, ev316, hf⟩ := bs hf
                                            refine j_rdS E hX hbl hbA ev316 dL_law_1004 ?_
                                            refine j_aload_n E 0 rfl dL_law_1005 rfl ?_
                                            refine j_iload_n E 3 rfl dL_law_1006 rfl ?_
                                            refine j_iconst (v := 4) E dL_law_1007 (by decide) ?_
                                            refine j_iadd E dL_law_1008 ?_
                                            obtain ⟨v317, ev317, hf⟩ := bs hf
                                            refine j_rdS E hX hbl hbA ev317 dL_law_1009 ?_
                                            refine j_aload_n E 0 rfl dL_law_1010 rfl ?_
                                            refine j_iload_n E 3 rfl dL_law_1011 rfl ?_
                                            refine j_iconst (v := 5) E dL_law_1012 (by decide) ?_
                                            refine j_iadd E dL_law_1013 ?_
                                            obtain ⟨v318, ev318, hf⟩ := bs hf
                                            refine j_rdS E hX hbl hbA ev318 dL_law_1014 ?_
                                            refine j_if_eq (tgt := 1022) E dL_law_1015 (by decide) (fun z319 => ?_) (fun z319 => ?_)
                                            · have hf := ifp hf z319
                                              refine j_iconst (v := 0) E dL_law_1022 (by decide) ?_
                                              obtain ⟨k320, hf⟩ := ck_spec hf
                                              obtain ⟨⟨h321, v322⟩, e323, hf⟩ := bs hf
                                              refine j_callV (ci := 5) (b := x2) (As := [.int v314, .int v315, .int v316, .int v317, .int 0]) (rest := [.int v312]) (v := (some (.int v322))) E (c_X6_slopes l D ad cy h311 x2 v314 v315 v316 v317 0 e323) (mcwL E.1.2.2.2.2 uw_4_25 uw_4_22 uw_4_23 uw_4_24 uw_1_6 rfl rfl hd_X6_slopes ⟨by decide, by decide⟩) rfl k320 rfl rfl (Nat.le_of_ble_eq_true rfl) dL_law_1023 ⟨by decide, by decide⟩ ?_
                                              refine j_stk (st' := [.int v322, .int v312]) rfl ?_
                                              refine j_icmp_eq (tgt := 1420) E dL_law_1026 (by decide) (fun z324 => ?_) (fun z324 => ?_)
                                              · have hf := ifp hf z324
                                                refine j_iinc (v := (x3 + 8)) (k0 := 3) (lv' := [(3, .int (x3 + 8)), (0, .ref b), (1, .ref (ad x1)), (2, .ref (ad x2))]) E dL_law_1420 rfl (congrArg (fun z => x3 + z) (by decide)) (by decide) rfl ?_
                                                refine j_goto (tgt := 18) E dL_law_1423 (by decide) ?_
                                                refine j_perm (lv' := [(0, .ref b), (1, .ref (ad x1)), (2, .ref (ad x2)), (3, .int (x3 + 8))]) [1, 2, 3, 0] rfl ?_
                                                exact ih k h321 (x3 + 8) hk hf
                                              · have hf := ifn hf z324
                                                refine j_iconst (v := 0) E dL_law_1029 (by decide) ?_
                                                exact absurd (Option.some.inj hf) (by decide)
                                            · have hf := ifn hf z319
                                              refine j_iconst (v := 1) E dL_law_1018 (by decide) ?_
                                              refine j_goto (tgt := 1023) E dL_law_1019 (by decide) ?_
                                              obtain ⟨k325, hf⟩ := ck_spec hf
                                              obtain ⟨⟨h326, v327⟩, e328, hf⟩ := bs hf
                                              refine j_callV (ci := 5) (b := x2) (As := [.int v314, .int v315, .int v316, .int v317, .int 1]) (rest := [.int v312]) (v := (some (.int v327))) E (c_X6_slopes l D ad cy h311 x2 v314 v315 v316 v317 1 e328) (mcwL E.1.2.2.2.2 uw_4_25 uw_4_22 uw_4_23 uw_4_24 uw_1_6 rfl rfl hd_X6_slopes ⟨by decide, by decide⟩) rfl k325 rfl rfl (Nat.le_of_ble_eq_true rfl) dL_law_1023 ⟨by decide, by decide⟩ ?_
                                              refine j_stk (st' := [.int v327, .int v312]) rfl ?_
                                              refine j_icmp_eq (tgt := 1420) E dL_law_1026 (by decide) (fun z329 => ?_) (fun z329 => ?_)
                                              · have hf := ifp hf z329
                                                refine j_iinc (v := (x3 + 8)) (k0 := 3) (lv' := [(3, .int (x3 + 8)), (0, .ref b), (1, .ref (ad x1)), (2, .ref (ad x2))]) E dL_law_1420 rfl (congrArg (fun z => x3 + z) (by decide)) (by decide) rfl ?_
                                                refine j_goto (tgt := 18) E dL_law_1423 (by decide) ?_
                                                refine j_perm (lv' := [(0, .ref b), (1, .ref (ad x1)), (2, .ref (ad x2)), (3, .int (x3 + 8))]) [1, 2, 3, 0] rfl ?_
                                                exact ih k h326 (x3 + 8) hk hf
                                              · have hf := ifn hf z329
                                                refine j_iconst (v := 0) E dL_law_1029 (by decide) ?_
                                                exact absurd (Option.some.inj hf) (by decide)
                                        · have hf := ifn hf z283
                                          by_cases z330 : (v2 &&& 31) = 18
                                          · have hf := ifp hf z330
                                            refine j_tabIn (off := 998) (tgt := 1031) E dL_law_33 (by rw [z330]; decide) (by rw [z330]; decide) (by rw [z330]; decide) (by decide) ?_
                                            refine j_aload_n E 1 rfl dL_law_1031 rfl ?_
                                            refine j_aload_n E 0 rfl dL_law_1032 rfl ?_
                                            refine j_iload_n E 3 rfl dL_law_1033 rfl ?_
                                            refine j_iconst (v := 1) E dL_law_1034 (by decide) ?_
                                            refine j_iadd E dL_law_1035 ?_
                                            obtain ⟨v331, ev331, hf⟩ := bs hf
                                            refine j_rdS E hX hbl hbA ev331 dL_law_1036 ?_
                                            refine j_aload_n E 0 rfl dL_law_1037 rfl ?_
                                            refine j_iload_n E 3 rfl dL_law_1038 rfl ?_
                                            refine j_iconst (v := 2) E dL_law_1039 (by decide) ?_
                                            refine j_iadd E dL_law_1040 ?_
                                            obtain ⟨v332, ev332, hf⟩ := bs hf
                                            refine j_rdS E hX hbl hbA ev332 dL_law_1041 ?_
                                            refine j_if_eq (tgt := 1049) E dL_law_1042 (by decide) (fun z333 => ?_) (fun z333 => ?_)
                                            · have hf := ifp hf z333
                                              refine j_iconst (v := 0) E dL_law_1049 (by decide) ?_
                                              refine j_aload_n E 0 rfl dL_law_1050 rfl ?_
                                              refine j_iload_n E 3 rfl dL_law_1051 rfl ?_
                                              refine j_iconst (v := 3) E dL_law_1052 (by decide) ?_
                                              refine j_iadd E dL_law_1053 ?_
                                              obtain ⟨v334, ev334, hf⟩ := bs hf
                                              refine j_rdS E hX hbl hbA ev334 dL_law_1054 ?_
                                              obtain ⟨k335, hf⟩ := ck_spec hf
                                              obtain ⟨v336, e337, hf⟩ := bs hf
                                              refine j_callV (ci := 4) (b := x1) (As := [.int v331, .int 0, .int v334]) (rest := []) (v := (some (.long v336))) E (c_X5_sum l D ad cy h x1 v331 0 v334 e337) (mcwL E.1.2.2.2.2 uw_2_147 uw_2_144 uw_2_145 uw_2_146 uw_1_1 rfl rfl hd_X5_sum ⟨by decide, by decide⟩) rfl k335 rfl rfl (Nat.le_of_ble_eq_true rfl) dL_law_1055 ⟨by decide, by decide⟩ ?_
                                              refine j_stk (st' := [.long v336]) rfl ?_
                                              refine j_aload_n E 2 rfl dL_law_1058 rfl ?_
                                              refine j_aload_n E 0 rfl dL_law_1059 rfl ?_
                                              refine j_iload_n E 3 rfl dL_law_1060 rfl ?_
                                              refine j_iconst (v := 1) E dL_law_1061 (by decide) ?_
                                              refine j_iadd E dL_law_1062 ?_
                                              obtain ⟨v338, ev338, hf⟩ := bs hf
                                              refine j_rdS E hX hbl hbA ev338 dL_law_1063 ?_
                                              refine j_aload_n E 0 rfl dL_law_1064 rfl ?_
                                              refine j_iload_n E 3 rfl dL_law_1065 rfl ?_
                                              refine j_iconst (v := 2) E dL_law_1066 (by decide) ?_
                                              refine j_iadd E dL_law_1067 ?_
                                              obtain ⟨v339, ev339, hf⟩ := bs hf
                                              refine j_rdS E hX hbl hbA ev339 dL_law_1068 ?_
                                              refine j_if_eq (tgt := 1076) E dL_law_1069 (by decide) (fun z340 => ?_) (fun z340 => ?_)
                                              · have hf := ifp hf z340
                                                refine j_iconst (v := 0) E dL_law_1076 (by decide) ?_
                                                refine j_aload_n E 0 rfl dL_law_1077 rfl ?_
                                                refine j_iload_n E 3 rfl dL_law_1078 rfl ?_
                                                refine j_iconst (v := 3) E dL_law_1079 (by decide) ?_
                                                refine j_iadd E dL_law_1080 ?_
                                                obtain ⟨v341, ev341, hf⟩ := bs hf
                                                refine j_rdS E hX hbl hbA ev341 dL_law_1081 ?_
                                                obtain ⟨k342, hf⟩ := ck_spec hf
                                                obtain ⟨v343, e344, hf⟩ := bs hf
                                                refine j_callV (ci := 5) (b := x2) (As := [.int v338, .int 0, .int v341]) (rest := [.long v336]) (v := (some (.long v343))) E (c_X6_sum l D ad cy h x2 v338 0 v341 e344) (mcwL E.1.2.2.2.2 uw_4_29 uw_4_26 uw_4_27 uw_4_28 uw_1_6 rfl rfl hd_X6_sum ⟨by decide, by decide⟩) rfl k342 rfl rfl (Nat.le_of_ble_eq_true rfl) dL_law_1082 ⟨by decide, by decide⟩ ?_
                                                refine j_stk (st' := [.long v343, .long v336]) rfl ?_
                                                refine j_lcmp E dL_law_1085 ?_
                                                refine j_if_eq (tgt := 1420) E dL_law_1086 (by decide) (fun z345 => ?_) (fun z345 => ?_)
                                                · have hf := ifp hf z345
                                                  refine j_iinc (v := (x3 + 8)) (k0 := 3) (lv' := [(3, .int (x3 + 8)), (0, .ref b), (1, .ref (ad x1)), (2, .ref (ad x2))]) E dL_law_1420 rfl (congrArg (fun z => x3 + z) (by decide)) (by decide) rfl ?_
                                                  refine j_goto (tgt := 18) E dL_law_1423 (by decide) ?_
                                                  refine j_perm (lv' := [(0, .ref b), (1, .ref (ad x1)), (2, .ref (ad x2)), (3, .int (x3 + 8))]) [1, 2, 3, 0] rfl ?_
                                                  exact ih k h (x3 + 8) hk hf
                                                · have hf := ifn hf z345
                                                  refine j_iconst (v := 0) E dL_law_1089 (by decide) ?_
                                                  exact absurd (Option.some.inj hf) (by decide)
                                              · have hf := ifn hf z340
                                                refine j_iconst (v := 1) E dL_law_1072 (by decide) ?_
                                                refine j_goto (tgt := 1077) E dL_law_1073 (by decide) ?_
                                                refine j_aload_n E 0 rfl dL_law_1077 rfl ?_
                                                refine j_iload_n E 3 rfl dL_law_1078 rfl ?_
                                                refine j_iconst (v := 3) E dL_law_1079 (by decide) ?_
                                                refine j_iadd E dL_law_1080 ?_
                                                obtain ⟨v346, ev346, hf⟩ := bs hf
                                                refine j_rdS E hX hbl hbA ev346 dL_law_1081 ?_
                                                obtain ⟨k347, hf⟩ := ck_spec hf
                                                obtain ⟨v348, e349, hf⟩ := bs hf
                                                refine j_callV (ci := 5) (b := x2) (As := [.int v338, .int 1, .int v346]) (rest := [.long v336]) (v := (some (.long v348))) E (c_X6_sum l D ad cy h x2 v338 1 v346 e349) (mcwL E.1.2.2.2.2 uw_4_29 uw_4_26 uw_4_27 uw_4_28 uw_1_6 rfl rfl hd_X6_sum ⟨by decide, by decide⟩) rfl k347 rfl rfl (Nat.le_of_ble_eq_true rfl) dL_law_1082 ⟨by decide, by decide⟩ ?_
                                                refine j_stk (st' := [.long v348, .long v336]) rfl ?_
                                                refine j_lcmp E dL_law_1085 ?_
                                                refine j_if_eq (tgt := 1420) E dL_law_1086 (by decide) (fun z350 => ?_) (fun z350 => ?_)
                                                · have hf := ifp hf z350
                                                  refine j_iinc (v := (x3 + 8)) (k0 := 3) (lv' := [(3, .int (x3 + 8)), (0, .ref b), (1, .ref (ad x1)), (2, .ref (ad x2))]) E dL_law_1420 rfl (congrArg (fun z => x3 + z) (by decide)) (by decide) rfl ?_
                                                  refine j_goto (tgt := 18) E dL_law_1423 (by decide) ?_
                                                  refine j_perm (lv' := [(0, .ref b), (1, .ref (ad x1)), (2, .ref (ad x2)), (3, .int (x3 + 8))]) [1, 2, 3, 0] rfl ?_
                                                  exact ih k h (x3 + 8) hk hf
                                                · have hf := ifn hf z350
                                                  refine j_iconst (v := 0) E dL_law_1089 (by decide) ?_
                                                  exact absurd (Option.some.inj hf) (by decide)
                                            · have hf := ifn hf z333
                                              refine j_iconst (v := 1) E dL_law_1045 (by decide) ?_
                                              refine j_goto (tgt := 1050) E dL_law_1046 (by decide) ?_
                                              refine j_aload_n E 0 rfl dL_law_1050 rfl ?_
                                              refine j_iload_n E 3 rfl dL_law_1051 rfl ?_
                                              refine j_iconst (v := 3) E dL_law_1052 (by decide) ?_
                                              refine j_iadd E dL_law_1053 ?_
                                              obtain ⟨v351, ev351, hf⟩ := bs hf
                                              refine j_rdS E hX hbl hbA ev351 dL_law_1054 ?_
                                              obtain ⟨k352, hf⟩ := ck_spec hf
                                              obtain ⟨v353, e354, hf⟩ := bs hf
                                              refine j_callV (ci := 4) (b := x1) (As := [.int v331, .int 1, .int v351]) (rest := []) (v := (some (.long v353))) E (c_X5_sum l D ad cy h x1 v331 1 v351 e354) (mcwL E.1.2.2.2.2 uw_2_147 uw_2_144 uw_2_145 uw_2_146 uw_1_1 rfl rfl hd_X5_sum ⟨by decide, by decide⟩) rfl k352 rfl rfl (Nat.le_of_ble_eq_true rfl) dL_law_1055 ⟨by decide, by decide⟩ ?_
                                              refine j_stk (st' := [.long v353]) rfl ?_
                                              refine j_aload_n E 2 rfl dL_law_1058 rfl ?_
                                              refine j_aload_n E 0 rfl dL_law_1059 rfl ?_
                                              refine j_iload_n E 3 rfl dL_law_1060 rfl ?_
                                              refine j_iconst (v := 1) E dL_law_1061 (by decide) ?_
                                              refine j_iadd E dL_law_1062 ?_
                                              obtain ⟨v355, ev355, hf⟩ := bs hf
                                              refine j_rdS E hX hbl hbA ev355 dL_law_1063 ?_
                                              refine j_aload_n E 0 rfl dL_law_1064 rfl ?_
                                              refine j_iload_n E 3 rfl dL_law_1065 rfl ?_
                                              refine j_iconst (v := 2) E dL_law_1066 (by decide) ?_
                                              refine j_iadd E dL_law_1067 ?_
                                              obtain ⟨v356, ev356, hf⟩ := bs hf
                                              refine j_rdS E hX hbl hbA ev356 dL_law_1068 ?_
                                              refine j_if_eq (tgt := 1076) E dL_law_1069 (by decide) (fun z357 => ?_) (fun z357 => ?_)
                                              · have hf := ifp hf z357
                                                refine j_iconst (v := 0) E dL_law_1076 (by decide) ?_
                                                refine j_aload_n E 0 rfl dL_law_1077 rfl ?_
                                                refine j_iload_n E 3 rfl dL_law_1078 rfl ?_
                                                refine j_iconst (v := 3) E dL_law_1079 (by decide) ?_
                                                refine j_iadd E dL_law_1080 ?_
                                                obtain ⟨v358, ev358, hf⟩ := bs hf
                                                refine j_rdS E hX hbl hbA ev358 dL_law_1081 ?_
                                                obtain ⟨k359, hf⟩ := ck_spec hf
                                                obtain ⟨v360, e361, hf⟩ := bs hf
                                                refine j_callV (ci := 5) (b := x2) (As := [.int v355, .int 0, .int v358]) (rest := [.long v353]) (v := (some (.long v360))) E (c_X6_sum l D ad cy h x2 v355 0 v358 e361) (mcwL E.1.2.2.2.2 uw_4_29 uw_4_26 uw_4_27 uw_4_28 uw_1_6 rfl rfl hd_X6_sum ⟨by decide, by decide⟩) rfl k359 rfl rfl (Nat.le_of_ble_eq_true rfl) dL_law_1082 ⟨by decide, by decide⟩ ?_
                                                refine j_stk (st' := [.long v360, .long v353]) rfl ?_
                                                refine j_lcmp E dL_law_1085 ?_
                                                refine j_if_eq (tgt := 1420) E dL_law_1086 (by decide) (fun z362 => ?_) (fun z362 => ?_)
                                                · have hf := ifp hf z362
                                                  refine j_iinc (v := (x3 + 8)) (k0 := 3) (lv' := [(3, .int (x3 + 8)), (0, .ref b), (1, .ref (ad x1)), (2, .ref (ad x2))]) E dL_law_1420 rfl (congrArg (fun z => x3 + z) (by decide)) (by decide) rfl ?_
                                                  refine j_goto (tgt := 18) E dL_law_1423 (by decide) ?_
                                                  refine j_perm (lv' := [(0, .ref b), (1, .ref (ad x1)), (2, .ref (ad x2)), (3, .int (x3 + 8))]) [1, 2, 3, 0] rfl ?_
                                                  exact ih k h (x3 + 8) hk hf
                                                · have hf := ifn hf z362
                                                  refine j_iconst (v := 0) E dL_law_1089 (by decide) ?_
                                                  exact absurd (Option.some.inj hf) (by decide)
                                              · have hf := ifn hf z357
                                                refine j_iconst (v := 1) E dL_law_1072 (by decide) ?_
                                                refine j_goto (tgt := 1077) E dL_law_1073 (by decide) ?_
                                                refine j_aload_n E 0 rfl dL_law_1077 rfl ?_
                                                refine j_iload_n E 3 rfl dL_law_1078 rfl ?_
                                                refine j_iconst (v := 3) E dL_law_1079 (by decide) ?_
                                                refine j_iadd E dL_law_1080 ?_
                                                obtain ⟨v363, ev363, hf⟩ := bs hf
                                                refine j_rdS E hX hbl hbA ev363 dL_law_1081 ?_
                                                obtain ⟨k364, hf⟩ := ck_spec hf
                                                obtain ⟨v365, e366, hf⟩ := bs hf
                                                refine j_callV (ci := 5) (b := x2) (As := [.int v355, .int 1, .int v363]) (rest := [.long v353]) (v := (some (.long v365))) E (c_X6_sum l D ad cy h x2 v355 1 v363 e366) (mcwL E.1.2.2.2.2 uw_4_29 uw_4_26 uw_4_27 uw_4_28 uw_1_6 rfl rfl hd_X6_sum ⟨by decide, by decide⟩) rfl k364 rfl rfl (Nat.le_of_ble_eq_true rfl) dL_law_1082 ⟨by decide, by decide⟩ ?_
                                                refine j_stk (st' := [.long v365, .long v353]) rfl ?_
                                                refine j_lcmp E dL_law_1085 ?_
                                                refine j_if_eq (tgt := 1420) E dL_law_1086 (by decide) (fun z367 => ?_) (fun z367 => ?_)
                                                · have hf := ifp hf z367
                                                  refine j_iinc (v := (x3 + 8)) (k0 := 3) (lv' := [(3, .int (x3 + 8)), (0, .ref b), (1, .ref (ad x1)), (2, .ref (ad x2))]) E dL_law_1420 rfl (congrArg (fun z => x3 + z) (by decide)) (by decide) rfl ?_
                                                  refine j_goto (tgt := 18) E dL_law_1423 (by decide) ?_
                                                  refine j_perm (lv' := [(0, .ref b), (1, .ref (ad x1)), (2, .ref (ad x2)), (3, .int (x3 + 8))]) [1, 2, 3, 0] rfl ?_
                                                  exact ih k h (x3 + 8) hk hf
                                                · have hf := ifn hf z367
                                                  refine j_iconst (v := 0) E dL_law_1089 (by decide) ?_
                                                  exact absurd (Option.some.inj hf) (by decide)
                                          · have hf := ifn hf z330
                                            by_cases z368 : (v2 &&& 31) = 19
                                            · have hf := ifp hf z368
                                              refine j_tabIn (off := 1058) (tgt := 1091) E dL_law_33 (by rw [z368]; decide) (by rw [z368]; decide) (by rw [z368]; decide) (by decide) ?_
                                              refine j_aload_n E 1 rfl dL_law_1091 rfl ?_
                                              refine j_aload_n E 0 rfl dL_law_1092 rfl ?_
                                              refine j_iload_n E 3 rfl dL_law_1093 rfl ?_
                                              refine j_iconst (v := 1) E dL_law_1094 (by decide) ?_
                                              refine j_iadd E dL_law_1095 ?_
                                              obtain ⟨v369, ev369, hf⟩ := bs hf
                                              refine j_rdS E hX hbl hbA ev369 dL_law_1096 ?_
                                              refine j_aload_n E 0 rfl dL_law_1097 rfl ?_
                                              refine j_iload_n E 3 rfl dL_law_1098 rfl ?_
                                              refine j_iconst (v := 2) E dL_law_1099 (by decide) ?_
                                              refine j_iadd E dL_law_1100 ?_
                                              obtain ⟨v370, ev370, hf⟩ := bs hf
                                              refine j_rdS E hX hbl hbA ev370 dL_law_1101 ?_
                                              refine j_aload_n E 0 rfl dL_law_1102 rfl ?_
                                              refine j_iload_n E 3 rfl dL_law_1103 rfl ?_
                                              refine j_iconst (v := 3) E dL_law_1104 (by decide) ?_
                                              refine j_iadd E dL_law_1105 ?_
                                              obtain ⟨v371, ev371, hf⟩ := bs hf
                                              refine j_rdS E hX hbl hbA ev371 dL_law_1106 ?_
                                              obtain ⟨k372, hf⟩ := ck_spec hf
                                              obtain ⟨⟨h373, v374⟩, e375, hf⟩ := bs hf
                                              refine j_callV (ci := 4) (b := x1) (As := [.int v369, .int v370, .int v371]) (rest := []) (v := (some (.int v374))) E (c_X5_cost l D ad cy h x1 v369 v370 v371 e375) (mcwL E.1.2.2.2.2 uw_2_159 uw_2_156 uw_2_157 uw_2_158 uw_1_1 rfl rfl hd_X5_cost ⟨by decide, by decide⟩) rfl k372 rfl rfl (Nat.le_of_ble_eq_true rfl) dL_law_1107 ⟨by decide, by decide⟩ ?_
                                              refine j_stk (st' := [.int v374]) rfl ?_
                                              refine j_aload_n E 2 rfl dL_law_1110 rfl ?_
                                              refine j_aload_n E 0 rfl dL_law_1111 rfl ?_
                                              refine j_iload_n E 3 rfl dL_law_1112 rfl ?_
                                              refine j_iconst (v := 1) E dL_law_1113 (by decide) ?_
                                              refine j_iadd E dL_law_1114 ?_
                                              obtain ⟨v376, ev376, hf⟩ := bs hf
                                              refine j_rdS E hX hbl hbA ev376 dL_law_1115 ?_
                                              refine j_aload_n E 0 rfl dL_law_1116 rfl ?_
                                              refine j_iload_n E 3 rfl dL_law_1117 rfl ?_
                                              refine j_iconst (v := 2) E dL_law_1118 (by decide) ?_
                                              refine j_iadd E dL_law_1119 ?_
                                              obtain ⟨v377, ev377, hf⟩ := bs hf
                                              refine j_rdS E hX hbl hbA ev377 dL_law_1120 ?_
                                              refine j_aload_n E 0 rfl dL_law_1121 rfl ?_
                                              refine j_iload_n E 3 rfl dL_law_1122 rfl ?_
                                              refine j_iconst (v := 3) E dL_law_1123 (by decide) ?_
                                              refine j_iadd E dL_law_1124 ?_
                                              obtain ⟨v378, ev378, hf⟩ := bs hf
                                              refine j_rdS E hX hbl hbA ev378 dL_law_1125 ?_
                                              obtain ⟨k379, hf⟩ := ck_spec hf
                                              obtain ⟨⟨h380, v381⟩, e382, hf⟩ := bs hf
                                              refine j_callV (ci := 5) (b := x2) (As := [.int v376, .int v377, .int v378]) (rest := [.int v374]) (v := (some (.int v381))) E (c_X6_cost l D ad cy h373 x2 v376 v377 v378 e382) (mcwL E.1.2.2.2.2 uw_4_33 uw_4_30 uw_4_31 uw_4_32 uw_1_6 rfl rfl hd_X6_cost ⟨by decide, by decide⟩) rfl k379 rfl rfl (Nat.le_of_ble_eq_true rfl) dL_law_1126 ⟨by decide, by decide⟩ ?_
                                              refine j_stk (st' := [.int v381, .int v374]) rfl ?_
                                              refine j_icmp_eq (tgt := 1420) E dL_law_1129 (by decide) (fun z383 => ?_) (fun z383 => ?_)
                                              · have hf := ifp hf z383
                                                refine j_iinc (v := (x3 + 8)) (k0 := 3) (lv' := [(3, .int (x3 + 8)), (0, .ref b), (1, .ref (ad x1)), (2, .ref (ad x2))]) E dL_law_1420 rfl (congrArg (fun z => x3 + z) (by decide)) (by decide) rfl ?_
                                                refine j_goto (tgt := 18) E dL_law_1423 (by decide) ?_
                                                refine j_perm (lv' := [(0, .ref b), (1, .ref (ad x1)), (2, .ref (ad x2)), (3, .int (x3 + 8))]) [1, 2, 3, 0] rfl ?_
                                                exact ih k h380 (x3 + 8) hk hf
                                              · have hf := ifn hf z383
                                                refine j_iconst (v := 0) E dL_law_1132 (by decide) ?_
                                                exact absurd (Option.some.inj hf) (by decide)
                                            · have hf := ifn hf z368
                                              by_cases z384 : (v2 &&& 31) = 20
                                              · have hf := ifp hf z384
                                                refine j_tabIn (off := 1101) (tgt := 1134) E dL_law_33 (by rw [z384]; decide) (by rw [z384]; decide) (by rw [z384]; decide) (by decide) ?_
                                                refine j_aload_n E 1 rfl dL_law_1134 rfl ?_
                                                refine j_aload_n E 0 rfl dL_law_1135 rfl ?_
                                                refine j_iload_n E 3 rfl dL_law_1136 rfl ?_
                                                refine j_iconst (v := 1) E dL_law_1137 (by decide) ?_
                                                refine j_iadd E dL_law_1138 ?_
                                                obtain ⟨v385, ev385, hf⟩ := bs hf
                                                refine j_rdS E hX hbl hbA ev385 dL_law_1139 ?_
                                                refine j_aload_n E 0 rfl dL_law_1140 rfl ?_
                                                refine j_iload_n E 3 rfl dL_law_1141 rfl ?_
                                                refine j_iconst (v := 2) E dL_law_1142 (by decide) ?_
                                                refine j_iadd E dL_law_1143 ?_
                                                obtain ⟨v386, ev386, hf⟩ := bs hf
                                                refine j_rdS E hX hbl hbA ev386 dL_law_1144 ?_
                                                obtain ⟨k387, hf⟩ := ck_spec hf
                                                obtain ⟨⟨h388, v389⟩, e390, hf⟩ := bs hf
                                                refine j_callV (ci := 4) (b := x1) (As := [.int v385, .int v386]) (rest := []) (v := (some (.int v389))) E (c_X5_cheapest l D ad cy h x1 v385 v386 e390) (mcwL E.1.2.2.2.2 uw_2_187 uw_2_184 uw_2_185 uw_2_186 uw_1_1 rfl rfl hd_X5_cheapest ⟨by decide, by decide⟩) rfl k387 rfl rfl (Nat.le_of_ble_eq_true rfl) dL_law_1145 ⟨by decide, by decide⟩ ?_
                                                refine j_stk (st' := [.int v389]) rfl ?_
                                                refine j_aload_n E 2 rfl dL_law_1148 rfl ?_
                                                refine j_aload_n E 0 rfl dL_law_1149 rfl ?_
                                                refine j_iload_n E 3 rfl dL_law_1150 rfl ?_
                                                refine j_iconst (v := 1) E dL_law_1151 (by decide) ?_
                                                refine j_iadd E dL_law_1152 ?_
                                                obtain ⟨v391, ev391, hf⟩ := bs hf
                                                refine j_rdS E hX hbl hbA ev391 dL_law_1153 ?_
                                                refine j_aload_n E 0 rfl dL_law_1154 rfl ?_
                                                refine j_iload_n E 3 rfl dL_law_1155 rfl ?_
                                                refine j_iconst (v := 2) E dL_law_1156 (by decide) ?_
                                                refine j_iadd E dL_law_1157 ?_
                                                obtain ⟨v392, ev392, hf⟩ := bs hf
                                                refine j_rdS E hX hbl hbA ev392 dL_law_1158 ?_
                                                obtain ⟨k393, hf⟩ := ck_spec hf
                                                obtain ⟨⟨h394, v395⟩, e396, hf⟩ := bs hf
                                                refine j_callV (ci := 5) (b := x2) (As := [.int v391, .int v392]) (rest := [.int v389]) (v := (some (.int v395))) E (c_X6_cheapest l D ad cy h388 x2 v391 v392 e396) (mcwL E.1.2.2.2.2 uw_4_72 uw_4_69 uw_4_70 uw_4_71 uw_1_6 rfl rfl hd_X6_cheapest ⟨by decide, by decide⟩) rfl k393 rfl rfl (Nat.le_of_ble_eq_true rfl) dL_law_1159 ⟨by decide, by decide⟩ ?_
                                                refine j_stk (st' := [.int v395, .int v389]) rfl ?_
                                                refine j_icmp_eq (tgt := 1420) E dL_law_1162 (by decide) (fun z397 => ?_) (fun z397 => ?_)
                                                · have hf := ifp hf z397
                                                  refine j_iinc (v := (x3 + 8)) (k0 := 3) (lv' := [(3, .int (x3 + 8)), (0, .ref b), (1, .ref (ad x1)), (2, .ref (ad x2))]) E dL_law_1420 rfl (congrArg (fun z => x3 + z) (by decide)) (by decide) rfl ?_
                                                  refine j_goto (tgt := 18) E dL_law_1423 (by decide) ?_
                                                  refine j_perm (lv' := [(0, .ref b), (1, .ref (ad x1)), (2, .ref (ad x2)), (3, .int (x3 + 8))]) [1, 2, 3, 0] rfl ?_
                                                  exact ih k h394 (x3 + 8) hk hf
                                                · have hf := ifn hf z397
                                                  refine j_iconst (v := 0) E dL_law_1165 (by decide) ?_
                                                  exact absurd (Option.some.inj hf) (by decide)
                                              · have hf := ifn hf z384
                                                by_cases z398 : (v2 &&& 31) = 21
                                                · have hf := ifp hf z398
                                                  refine j_tabIn (off := 1134) (tgt := 1167) E dL_law_33 (by rw [z398]; decide) (by rw [z398]; decide) (by rw [z398]; decide) (by decide) ?_
                                                  refine j_aload_n E 1 rfl dL_law_1167 rfl ?_
                                                  refine j_aload_n E 0 rfl dL_law_1168 rfl ?_
                                                  refine j_iload_n E 3 rfl dL_law_1169 rfl ?_
                                                  refine j_iconst (v := 1) E dL_law_1170 (by decide) ?_
                                                  refine j_iadd E dL_law_1171 ?_
                                                  obtain ⟨v399, ev399, hf⟩ := bs hf
                                                  refine j_rdS E hX hbl hbA ev399 dL_law_1172 ?_
                                                  refine j_aload_n E 0 rfl dL_law_1173 rfl ?_
                                                  refine j_iload_n E 3 rfl dL_law_1174 rfl ?_
                                                  refine j_iconst (v := 2) E dL_law_1175 (by decide) ?_
                                                  refine j_iadd E dL_law_1176 ?_
                                                  obtain ⟨v400, ev400, hf⟩ := bs hf
                                                  refine j_rdS E hX hbl hbA ev400 dL_law_1177 ?_
                                                  refine j_aload_n E 0 rfl dL_law_1178 rfl ?_
                                                  refine j_iload_n E 3 rfl dL_law_1179 rfl ?_
                                                  refine j_iconst (v := 3) E dL_law_1180 (by decide) ?_
                                                  refine j_iadd E dL_law_1181 ?_
                                                  obtain ⟨v401, ev401, hf⟩ := bs hf
                                                  refine j_rdS E hX hbl hbA ev401 dL_law_1182 ?_
                                                  refine j_aload_n E 0 rfl dL_law_1183 rfl ?_
                                                  refine j_iload_n E 3 rfl dL_law_1184 rfl ?_
                                                  refine j_iconst (v := 4) E dL_law_1185 (by decide) ?_
                                                  refine j_iadd E dL_law_1186 ?_
                                                  obtain ⟨v402, ev402, hf⟩ := bs hf
                                                  refine j_rdS E hX hbl hbA ev402 dL_law_1187 ?_
                                                  obtain ⟨k403, hf⟩ := ck_spec hf
                                                  obtain ⟨⟨h404, v405⟩, e406, hf⟩ := bs hf
                                                  refine j_callV (ci := 4) (b := x1) (As := [.int v399, .int v400, .int v401, .int v402]) (rest := []) (v := (some (.long v405))) E (c_X5_cell l D ad cy h x1 v399 v400 v401 v402 e406) (mcwL E.1.2.2.2.2 uw_2_192 uw_2_189 uw_2_190 uw_2_191 uw_1_1 rfl rfl hd_X5_cell ⟨by decide, by decide⟩) rfl k403 rfl rfl (Nat.le_of_ble_eq_true rfl) dL_law_1188 ⟨by decide, by decide⟩ ?_
                                                  refine j_stk (st' := [.long v405]) rfl ?_
                                                  refine j_aload_n E 2 rfl dL_law_1191 rfl ?_
                                                  refine j_aload_n E 0 rfl dL_law_1192 rfl ?_
                                                  refine j_iload_n E 3 rfl dL_law_1193 rfl ?_
                                                  refine j_iconst (v := 1) E dL_law_1194 (by decide) ?_
                                                  refine j_iadd E dL_law_1195 ?_
                                                  obtain ⟨v407, ev407, hf⟩ := bs hf
                                                  refine j_rdS E hX hbl hbA ev407 dL_law_1196 ?_
                                                  refine j_aload_n E 0 rfl dL_law_1197 rfl ?_
                                                  refine j_iload_n E 3 rfl dL_law_1198 rfl ?_
                                                  refine j_iconst (v := 2) E dL_law_1199 (by decide) ?_
                                                  refine j_iadd E dL_law_1200 ?_
                                                  obtain ⟨v408, ev408, hf⟩ := bs hf
                                                  refine j_rdS E hX hbl hbA ev408 dL_law_1201 ?_
                                                  refine j_aload_n E 0 rfl dL_law_1202 rfl ?_
                                                  refine j_iload_n E 3 rfl dL_law_1203 rfl ?_
                                                  refine j_iconst (v := 3) E dL_law_1204 (by decide) ?_
                                                  refine j_iadd E dL_law_1205 ?_
                                                  obtain ⟨v409, ev409, hf⟩ := bs hf
                                                  refine j_rdS E hX hbl hbA ev409 dL_law_1206 ?_
                                                  refine j_aload_n E 0 rfl dL_law_1207 rfl ?_
                                                  refine j_iload_n E 3 rfl dL_law_1208 rfl ?_
                                                  refine j_iconst (v := 4) E dL_law_1209 (by decide) ?_
                                                  refine j_iadd E dL_law_1210 ?_
                                                  obtain ⟨v410, ev410, hf⟩ := bs hf
                                                  refine j_rdS E hX hbl hbA ev410 dL_law_1211 ?_
                                                  obtain ⟨k411, hf⟩ := ck_spec hf
                                                  obtain ⟨⟨h412, v413⟩, e414, hf⟩ := bs hf
                                                  refine j_callV (ci := 5) (b := x2) (As := [.int v407, .int v408, .int v409, .int v410]) (rest := [.long v405]) (v := (some (.long v413))) E (c_X6_cell l D ad cy h404 x2 v407 v408 v409 v410 e414) (mcwL E.1.2.2.2.2 uw_4_77 uw_4_74 uw_4_75 uw_4_76 uw_1_6 rfl rfl hd_X6_cell ⟨by decide, by decide⟩) rfl k411 rfl rfl (Nat.le_of_ble_eq_true rfl) dL_law_1212 ⟨by decide, by decide⟩ ?_
                                                  refine j_stk (st' := [.long v413, .long v405]) rfl ?_
                                                  refine j_lcmp E dL_law_1215 ?_
                                                  refine j_if_eq (tgt := 1420) E dL_law_1216 (by decide) (fun z415 => ?_) (fun z415 => ?_)
                                                  · have hf := ifp hf z415
                                                    refine j_iinc (v := (x3 + 8)) (k0 := 3) (lv' := [(3, .int (x3 + 8)), (0, .ref b), (1, .ref (ad x1)), (2, .ref (ad x2))]) E dL_law_1420 rfl (congrArg (fun z => x3 + z) (by decide)) (by decide) rfl ?_
                                                    refine j_goto (tgt := 18) E dL_law_1423 (by decide) ?_
                                                    refine j_perm (lv' := [(0, .ref b), (1, .ref (ad x1)), (2, .ref (ad x2)), (3, .int (x3 + 8))]) [1, 2, 3, 0] rfl ?_
                                                    exact ih k h412 (x3 + 8) hk hf
                                                  · have hf := ifn hf z415
                                                    refine j_iconst (v := 0) E dL_law_1219 (by decide) ?_
                                                    exact absurd (Option.some.inj hf) (by decide)
                                                · have hf := ifn hf z398
                                                  by_cases z416 : (v2 &&& 31) = 22
                                                  · have hf := ifp hf z416
                                                    refine j_tabIn (off := 1188) (tgt := 1221) E dL_law_33 (by rw [z416]; decide) (by rw [z416]; decide) (by rw [z416]; decide) (by decide) ?_
                                                    refine j_aload_n E 1 rfl dL_law_1221 rfl ?_
                                                    refine j_aload_n E 0 rfl dL_law_1222 rfl ?_
                                                    refine j_iload_n E 3 rfl dL_law_1223 rfl ?_
                                                    refine j_iconst (v := 1) E dL_law_1224 (by decide) ?_
                                                    refine j_iadd E dL_law_1225 ?_
                                                    obtain ⟨v417, ev417, hf⟩ := bs hf
                                                    refine j_rdS E hX hbl hbA ev417 dL_law_1226 ?_
                                                    refine j_aload_n E 0 rfl dL_law_1227 rfl ?_
                                                    refine j_iload_n E 3 rfl dL_law_1228 rfl ?_
                                                    refine j_iconst (v := 2) E dL_law_1229 (by decide) ?_
                                                    refine j_iadd E dL_law_1230 ?_
                                                    obtain ⟨v418, ev418, hf⟩ := bs hf
                                                    refine j_rdS E hX hbl hbA ev418 dL_law_1231 ?_
                                                    refine j_aload_n E 0 rfl dL_law_1232 rfl ?_
                                                    refine j_iload_n E 3 rfl dL_law_1233 rfl ?_
                                                    refine j_iconst (v := 3) E dL_law_1234 (by decide) ?_
                                                    refine j_iadd E dL_law_1235 ?_
                                                    obtain ⟨v419, ev419, hf⟩ := bs hf
                                                    refine j_rdS E hX hbl hbA ev419 dL_law_1236 ?_
                                                    refine j_aload_n E 0 rfl dL_law_1237 rfl ?_
                                                    refine j_iload_n E 3 rfl dL_law_1238 rfl ?_
                                                    refine j_iconst (v := 4) E dL_law_1239 (by decide) ?_
                                                    refine j_iadd E dL_law_1240 ?_
                                                    obtain ⟨v420, ev420, hf⟩ := bs hf
                                                    refine j_rdS E hX hbl hbA ev420 dL_law_1241 ?_
                                                    obtain ⟨k421, hf⟩ := ck_spec hf
                                                    obtain ⟨⟨h422, v423⟩, e424, hf⟩ := bs hf
                                                    refine j_callV (ci := 4) (b := x1) (As := [.int v417, .int v418, .int v419, .int v420]) (rest := []) (v := (some (.long v423))) E (c_X5_walks l D ad cy h x1 v417 v418 v419 v420 e424) (mcwL E.1.2.2.2.2 uw_2_221 uw_2_218 uw_2_219 uw_2_220 uw_1_1 rfl rfl hd_X5_walks ⟨by decide, by decide⟩) rfl k421 rfl rfl (Nat.le_of_ble_eq_true rfl) dL_law_1242 ⟨by decide, by decide⟩ ?_
                                                    refine j_stk (st' := [.long v423]) rfl ?_
                                                    refine j_aload_n E 2 rfl dL_law_1245 rfl ?_
                                                    refine j_aload_n E 0 rfl dL_law_1246 rfl ?_
                                                    refine j_iload_n E 3 rfl dL_law_1247 rfl ?_
                                                    refine j_iconst (v := 1) E dL_law_1248 (by decide) ?_
                                                    refine j_iadd E dL_law_1249 ?_
                                                    obtain ⟨v425, ev425, hf⟩ := bs hf
                                                    refine j_rdS E hX hbl hbA ev425 dL_law_1250 ?_
                                                    refine j_aload_n E 0 rfl dL_law_1251 rfl ?_
                                                    refine j_iload_n E 3 rfl dL_law_1252 rfl ?_
                                                    refine j_iconst (v := 2) E dL_law_1253 (by decide) ?_
                                                    refine j_iadd E dL_law_1254 ?_
                                                    obtain ⟨v426, ev426, hf⟩ := bs hf
                                                    refine j_rdS E hX hbl hbA ev426 dL_law_1255 ?_
                                                    refine j_aload_n E 0 rfl dL_law_1256 rfl ?_
                                                    refine j_iload_n E 3 rfl dL_law_1257 rfl ?_
                                                    refine j_iconst (v := 3) E dL_law_1258 (by decide) ?_
                                                    refine j_iadd E dL_law_1259 ?_
                                                    obtain ⟨v427, ev427, hf⟩ := bs hf
                                                    refine j_rdS E hX hbl hbA ev427 dL_law_1260 ?_
                                                    refine j_aload_n E 0 rfl dL_law_1261 rfl ?_
                                                    refine j_iload_n E 3 rfl dL_law_1262 rfl ?_
                                                    refine j_iconst (v := 4) E dL_law_1263 (by decide) ?_
                                                    refine j_iadd E dL_law_1264 ?_
                                                    obtain ⟨v428, ev428, hf⟩ := bs hf
                                                    refine j_rdS E hX hbl hbA ev428 dL_law_1265 ?_
                                                    obtain ⟨k429, hf⟩ := ck_spec hf
                                                    obtain ⟨⟨h430, v431⟩, e432, hf⟩ := bs hf
                                                    refine j_callV (ci := 5) (b := x2) (As := [.int v425, .int v426, .int v427, .int v428]) (rest := [.long v423]) (v := (some (.long v431))) E (c_X6_walks l D ad cy h422 x2 v425 v426 v427 v428 e432) (mcwL E.1.2.2.2.2 uw_4_81 uw_4_78 uw_4_79 uw_4_80 uw_1_6 rfl rfl hd_X6_walks ⟨by decide, by decide⟩) rfl k429 rfl rfl (Nat.le_of_ble_eq_true rfl) dL_law_1266 ⟨by decide, by decide⟩ ?_
                                                    refine j_stk (st' := [.long v431, .long v423]) rfl ?_
                                                    refine j_lcmp E dL_law_1269 ?_
                                                    refine j_if_eq (tgt := 1420) E dL_law_1270 (by decide) (fun z433 => ?_) (fun z433 => ?_)
                                                    · have hf := ifp hf z433
                                                      refine j_iinc (v := (x3 + 8)) (k0 := 3) (lv' := [(3, .int (x3 + 8)), (0, .ref b), (1, .ref (ad x1)), (2, .ref (ad x2))]) E dL_law_1420 rfl (congrArg (fun z => x3 + z) (by decide)) (by decide) rfl ?_
                                                      refine j_goto (tgt := 18) E dL_law_1423 (by decide) ?_
                                                      refine j_perm (lv' := [(0, .ref b), (1, .ref (ad x1)), (2, .ref (ad x2)), (3, .int (x3 + 8))]) [1, 2, 3, 0] rfl ?_
                                                      exact ih k h430 (x3 + 8) hk hf
                                                    · have hf := ifn hf z433
                                                      refine j_iconst (v := 0) E dL_law_1273 (by decide) ?_
                                                      exact absurd (Option.some.inj hf) (by decide)
                                                  · have hf := ifn hf z416
                                                    by_cases z434 : (v2 &&& 31) = 23
                                                    · have hf := ifp hf z434
                                                      refine j_tabIn (off := 1242) (tgt := 1275) E dL_law_33 (by rw [z434]; decide) (by rw [z434]; decide) (by rw [z434]; decide) (by decide) ?_
                                                      refine j_aload_n E 1 rfl dL_law_1275 rfl ?_
                                                      refine j_aload_n E 0 rfl dL_law_1276 rfl ?_
                                                      refine j_iload_n E 3 rfl dL_law_1277 rfl ?_
                                                      refine j_iconst (v := 1) E dL_law_1278 (by decide) ?_
                                                      refine j_iadd E dL_law_1279 ?_
                                                      obtain ⟨v435, ev435, hf⟩ := bs hf
                                                      refine j_rdS E hX hbl hbA ev435 dL_law_1280 ?_
                                                      refine j_aload_n E 0 rfl dL_law_1281 rfl ?_
                                                      refine j_iload_n E 3 rfl dL_law_1282 rfl ?_
                                                      refine j_iconst (v := 2) E dL_law_1283 (by decide) ?_
                                                      refine j_iadd E dL_law_1284 ?_
                                                      obtain ⟨v436, ev436, hf⟩ := bs hf
                                                      refine j_rdS E hX hbl hbA ev436 dL_law_1285 ?_
                                                      refine j_aload_n E 0 rfl dL_law_1286 rfl ?_
                                                      refine j_iload_n E 3 rfl dL_law_1287 rfl ?_
                                                      refine j_iconst (v := 3) E dL_law_1288 (by decide) ?_
                                                      refine j_iadd E dL_law_1289 ?_
                                                      obtain ⟨v437, ev437, hf⟩ := bs hf
                                                      refine j_rdS E hX hbl hbA ev437 dL_law_1290 ?_
                                                      obtain ⟨k438, hf⟩ := ck_spec hf
                                                      obtain ⟨⟨h439, v440⟩, e441, hf⟩ := bs hf
                                                      refine j_callV (ci := 4) (b := x1) (As := [.int v435, .int v436, .int v437]) (rest := []) (v := (some (.int v440))) E (c_X5_way l D ad cy h x1 v435 v436 v437 e441) (mcwL E.1.2.2.2.2 uw_2_239 uw_2_236 uw_2_237 uw_2_238 uw_1_1 rfl rfl hd_X5_way ⟨by decide, by decide⟩) rfl k438 rfl rfl (Nat.le_of_ble_eq_true rfl) dL_law_1291 ⟨by decide, by decide⟩ ?_
                                                      refine j_stk (st' := [.int v440]) rfl ?_
                                                      refine j_aload_n E 2 rfl dL_law_1294 rfl ?_
                                                      refine j_aload_n E 0 rfl dL_law_1295 rfl ?_
                                                      refine j_iload_n E 3 rfl dL_law_1296 rfl ?_
                                                      refine j_iconst (v := 1) E dL_law_1297 (by decide) ?_
                                                      refine j_iadd E dL_law_1298 ?_
                                                      obtain ⟨v442, ev442, hf⟩ := bs hf
                                                      refine j_rdS E hX hbl hbA ev442 dL_law_1299 ?_
                                                      refine j_aload_n E 0 rfl dL_law_1300 rfl ?_
                                                      refine j_iload_n E 3 rfl dL_law_1301 rfl ?_
                                                      refine j_iconst (v := 2) E dL_law_1302 (by decide) ?_
                                                      refine j_iadd E dL_law_1303 ?_
                                                      obtain ⟨v443, ev443, hf⟩ := bs hf
                                                      refine j_rdS E hX hbl hbA ev443 dL_law_1304 ?_
                                                      refine j_aload_n E 0 rfl dL_law_1305 rfl ?_
                                                      refine j_iload_n E 3 rfl dL_law_1306 rfl ?_
                                                      refine j_iconst (v := 3) E dL_law_1307 (by decide) ?_
                                                      refine j_iadd E dL_law_1308 ?_
                                                      obtain ⟨v444, ev444, hf⟩ := bs hf
                                                      refine j_rdS E hX hbl hbA ev444 dL_law_1309 ?_
                                                      obtain ⟨k445, hf⟩ := ck_spec hf
                                                      obtain ⟨v446, e447, hf⟩ := bs hf
                                                      refine j_callV (ci := 5) (b := x2) (As := [.int v442, .int v443, .int v444]) (rest := [.int v440]) (v := (some (.int v446))) E (c_X6_way l D ad cy h439 x2 v442 v443 v444 e447) (mcwL E.1.2.2.2.2 uw_4_89 uw_4_86 uw_4_87 uw_4_88 uw_1_6 rfl rfl hd_X6_way ⟨by decide, by decide⟩) rfl k445 rfl rfl (Nat.le_of_ble_eq_true rfl) dL_law_1310 ⟨by decide, by decide⟩ ?_
                                                      refine j_stk (st' := [.int v446, .int v440]) rfl ?_
                                                      refine j_icmp_eq (tgt := 1420) E dL_law_1313 (by decide) (fun z448 => ?_) (fun z448 => ?_)
                                                      · have hf := ifp hf z448
                                                        refine j_iinc (v := (x3 + 8)) (k0 := 3) (lv' := [(3, .int (x3 + 8)), (0, .ref b), (1, .ref (ad x1)), (2, .ref (ad x2))]) E dL_law_1420 rfl (congrArg (fun z => x3 + z) (by decide)) (by decide) rfl ?_
                                                        refine j_goto (tgt := 18) E dL_law_1423 (by decide) ?_
                                                        refine j_perm (lv' := [(0, .ref b), (1, .ref (ad x1)), (2, .ref (ad x2)), (3, .int (x3 + 8))]) [1, 2, 3, 0] rfl ?_
                                                        exact ih k h439 (x3 + 8) hk hf
                                                      · have hf := ifn hf z448
                                                        refine j_iconst (v := 0) E dL_law_1316 (by decide) ?_
                                                        exact absurd (Option.some.inj hf) (by decide)
                                                    · have hf := ifn hf z434
                                                      by_cases z449 : (v2 &&& 31) = 24
                                                      · have hf := ifp hf z449
                                                        refine j_tabIn (off := 1285) (tgt := 1318) E dL_law_33 (by rw [z449]; decide) (by rw [z449]; decide) (by rw [z449]; decide) (by decide) ?_
                                                        refine j_aload_n E 1 rfl dL_law_1318 rfl ?_
                                                        refine j_aload_n E 0 rfl dL_law_1319 rfl ?_
                                                        refine j_iload_n E 3 rfl dL_law_1320 rfl ?_
                                                        refine j_iconst (v := 1) E dL_law_1321 (by decide) ?_
                                                        refine j_iadd E dL_law_1322 ?_
                                                        obtain ⟨v450, ev450, hf⟩ := bs hf
                                                        refine j_rdS E hX hbl hbA ev450 dL_law_1323 ?_
                                                        refine j_aload_n E 0 rfl dL_law_1324 rfl ?_
                                                        refine j_iload_n E 3 rfl dL_law_1325 rfl ?_
                                                        refine j_iconst (v := 2) E dL_law_1326 (by decide) ?_
                                                        refine j_iadd E dL_law_1327 ?_
                                                        obtain ⟨v451, ev451, hf⟩ := bs hf
                                                        refine j_rdS E hX hbl hbA ev451 dL_law_1328 ?_
                                                        obtain ⟨k452, hf⟩ := ck_spec hf
                                                        obtain ⟨⟨h453, v454⟩, e455, hf⟩ := bs hf
                                                        refine j_callV (ci := 4) (b := x1) (As := [.int v450, .int v451]) (rest := []) (v := (some (.int v454))) E (c_X5_ring l D ad cy h x1 v450 v451 e455) (mcwL E.1.2.2.2.2 uw_3_22 uw_3_19 uw_3_20 uw_3_21 uw_1_1 rfl rfl hd_X5_ring ⟨by decide, by decide⟩) rfl k452 rfl rfl (Nat.le_of_ble_eq_true rfl) dL_law_1329 ⟨by decide, by decide⟩ ?_
                                                        refine j_stk (st' := [.int v454]) rfl ?_
                                                        refine j_aload_n E 2 rfl dL_law_1332 rfl ?_
                                                        refine j_aload_n E 0 rfl dL_law_1333 rfl ?_
                                                        refine j_iload_n E 3 rfl dL_law_1334 rfl ?_
                                                        refine j_iconst (v := 1) E dL_law_1335 (by decide) ?_
                                                        refine j_iadd E dL_law_1336 ?_
                                                        obtain ⟨v456, ev456, hf⟩ := bs hf
                                                        refine j_rdS E hX hbl hbA ev456 dL_law_1337 ?_
                                                        refine j_aload_n E 0 rfl dL_law_1338 rfl ?_
                                                        refine j_iload_n E 3 rfl dL_law_1339 rfl ?_
                                                        refine j_iconst (v := 2) E dL_law_1340 (by decide) ?_
                                                        refine j_iadd E dL_law_1341 ?_
                                                        obtain ⟨v457, ev457, hf⟩ := bs hf
                                                        refine j_rdS E hX hbl hbA ev457 dL_law_1342 ?_
                                                        obtain ⟨k458, hf⟩ := ck_spec hf
                                                        obtain ⟨v459, e460, hf⟩ := bs hf
                                                        refine j_callV (ci := 5) (b := x2) (As := [.int v456, .int v457]) (rest := [.int v454]) (v := (some (.int v459))) E (c_X6_ring l D ad cy h453 x2 v456 v457 e460) (mcwL E.1.2.2.2.2 uw_4_97 uw_4_94 uw_4_95 uw_4_96 uw_1_6 rfl rfl hd_X6_ring ⟨by decide, by decide⟩) rfl k458 rfl rfl (Nat.le_of_ble_eq_true rfl) dL_law_1343 ⟨by decide, by decide⟩ ?_
                                                        refine j_stk (st' := [.int v459, .int v454]) rfl ?_
                                                        refine j_icmp_eq (tgt := 1420) E dL_law_1346 (by decide) (fun z461 => ?_) (fun z461 => ?_)
                                                        · have hf := ifp hf z461
                                                          refine j_iinc (v := (x3 + 8)) (k0 := 3) (lv' := [(3, .int (x3 + 8)), (0, .ref b), (1, .ref (ad x1)), (2, .ref (ad x2))]) E dL_law_1420 rfl (congrArg (fun z => x3 + z) (by decide)) (by decide) rfl ?_
                                                          refine j_goto (tgt := 18) E dL_law_1423 (by decide) ?_
                                                          refine j_perm (lv' := [(0, .ref b), (1, .ref (ad x1)), (2, .ref (ad x2)), (3, .int (x3 + 8))]) [1, 2, 3, 0] rfl ?_
                                                          exact ih k h453 (x3 + 8) hk hf
                                                        · have hf := ifn hf z461
                                                          refine j_iconst (v := 0) E dL_law_1349 (by decide) ?_
                                                          exact absurd (Option.some.inj hf) (by decide)
                                                      · have hf := ifn hf z449
                                                        by_cases z462 : (v2 &&& 31) = 25
                                                        · have hf := ifp hf z462
                                                          refine j_tabIn (off := 1318) (tgt := 1351) E dL_law_33 (by rw [z462]; decide) (by rw [z462]; decide) (by rw [z462]; decide) (by decide) ?_
                                                          refine j_aload_n E 1 rfl dL_law_1351 rfl ?_
                                                          refine j_aload_n E 0 rfl dL_law_1352 rfl ?_
                                                          refine j_iload_n E 3 rfl dL_law_1353 rfl ?_
                                                          refine j_iconst (v := 1) E dL_law_1354 (by decide) ?_
                                                          refine j_iadd E dL_law_1355 ?_
                                                          obtain ⟨v463, ev463, hf⟩ := bs hf
                                                          refine j_rdS E hX hbl hbA ev463 dL_law_1356 ?_
                                                          obtain ⟨k464, hf⟩ := ck_spec hf
                                                          obtain ⟨⟨h465, v466⟩, e467, hf⟩ := bs hf
                                                          refine j_callV (ci := 4) (b := x1) (As := [.int v463]) (rest := []) (v := (some (.int v466))) E (c_X5_sort l D ad cy h x1 v463 e467) (mcwL E.1.2.2.2.2 uw_3_39 uw_3_36 uw_3_37 uw_3_38 uw_1_1 rfl rfl hd_X5_sort ⟨by decide, by decide⟩) rfl k464 rfl rfl (Nat.le_of_ble_eq_true rfl) dL_law_1357 ⟨by decide, by decide⟩ ?_
                                                          refine j_stk (st' := [.int v466]) rfl ?_
                                                          refine j_aload_n E 2 rfl dL_law_1360 rfl ?_
                                                          refine j_aload_n E 0 rfl dL_law_1361 rfl ?_
                                                          refine j_iload_n E 3 rfl dL_law_1362 rfl ?_
                                                          refine j_iconst (v := 1) E dL_law_1363 (by decide) ?_
                                                          refine j_iadd E dL_law_1364 ?_
                                                          obtain ⟨v468, ev468, hf⟩ := bs hf
                                                          refine j_rdS E hX hbl hbA ev468 dL_law_1365 ?_
                                                          obtain ⟨k469, hf⟩ := ck_spec hf
                                                          obtain ⟨⟨h470, v471⟩, e472, hf⟩ := bs hf
                                                          refine j_callV (ci := 5) (b := x2) (As := [.int v468]) (rest := [.int v466]) (v := (some (.int v471))) E (c_X6_sort l D ad cy h465 x2 v468 e472) (mcwL E.1.2.2.2.2 uw_4_109 uw_4_106 uw_4_107 uw_4_108 uw_1_6 rfl rfl hd_X6_sort ⟨by decide, by decide⟩) rfl k469 rfl rfl (Nat.le_of_ble_eq_true rfl) dL_law_1366 ⟨by decide, by decide⟩ ?_
                                                          refine j_stk (st' := [.int v471, .int v466]) rfl ?_
                                                          refine j_icmp_eq (tgt := 1420) E dL_law_1369 (by decide) (fun z473 => ?_) (fun z473 => ?_)
                                                          · have hf := ifp hf z473
                                                            refine j_iinc (v := (x3 + 8)) (k0 := 3) (lv' := [(3, .int (x3 + 8)), (0, .ref b), (1, .ref (ad x1)), (2, .ref (ad x2))]) E dL_law_1420 rfl (congrArg (fun z => x3 + z) (by decide)) (by decide) rfl ?_
                                                            refine j_goto (tgt := 18) E dL_law_1423 (by decide) ?_
                                                            refine j_perm (lv' := [(0, .ref b), (1, .ref (ad x1)), (2, .ref (ad x2)), (3, .int (x3 + 8))]) [1, 2, 3, 0] rfl ?_
                                                            exact ih k h470 (x3 + 8) hk hf
                                                          · have hf := ifn hf z473
                                                            refine j_iconst (v := 0) E dL_law_1372 (by decide) ?_
                                                            exact absurd (Option.some.inj hf) (by decide)
                                                        · have hf := ifn hf z462
                                                          by_cases z474 : (v2 &&& 31) = 26
                                                          · have hf := ifp hf z474
                                                            refine j_tabIn (off := 1341) (tgt := 1374) E dL_law_33 (by rw [z474]; decide) (by rw [z474]; decide) (by rw [z474]; decide) (by decide) ?_
                                                            refine j_aload_n E 1 rfl dL_law_1374 rfl ?_
                                                            refine j_aload_n E 0 rfl dL_law_1375 rfl ?_
                                                            refine j_iload_n E 3 rfl dL_law_1376 rfl ?_
                                                            refine j_iconst (v := 1) E dL_law_1377 (by decide) ?_
                                                            refine j_iadd E dL_law_1378 ?_
                                                            obtain ⟨v475, ev475, hf⟩ := bs hf
                                                            refine j_rdS E hX hbl hbA ev475 dL_law_1379 ?_
                                                            obtain ⟨k476, hf⟩ := ck_spec hf
                                                            obtain ⟨⟨h477, v478⟩, e479, hf⟩ := bs hf
                                                            refine j_callV (ci := 4) (b := x1) (As := [.int v475]) (rest := []) (v := (some (.int v478))) E (c_X5_narrow l D ad cy h x1 v475 e479) (mcwL E.1.2.2.2.2 uw_3_62 uw_3_59 uw_3_60 uw_3_61 uw_1_1 rfl rfl hd_X5_narrow ⟨by decide, by decide⟩) rfl k476 rfl rfl (Nat.le_of_ble_eq_true rfl) dL_law_1380 ⟨by decide, by decide⟩ ?_
                                                            refine j_stk (st' := [.int v478]) rfl ?_
                                                            refine j_aload_n E 2 rfl dL_law_1383 rfl ?_
                                                            refine j_aload_n E 0 rfl dL_law_1384 rfl ?_
                                                            refine j_iload_n E 3 rfl dL_law_1385 rfl ?_
                                                            refine j_iconst (v := 1) E dL_law_1386 (by decide) ?_
                                                            refine j_iadd E dL_law_1387 ?_
                                                            obtain ⟨v480, ev480, hf⟩ := bs hf
                                                            refine j_rdS E hX hbl hbA ev480 dL_law_1388 ?_
                                                            obtain ⟨k481, hf⟩ := ck_spec hf
                                                            obtain ⟨⟨h482, v483⟩, e484, hf⟩ := bs hf
                                                            refine j_callV (ci := 5) (b := x2) (As := [.int v480]) (rest := [.int v478]) (v := (some (.int v483))) E (c_X6_narrow l D ad cy h477 x2 v480 e484) (mcwL E.1.2.2.2.2 uw_4_117 uw_4_114 uw_4_115 uw_4_116 uw_1_6 rfl rfl hd_X6_narrow ⟨by decide, by decide⟩) rfl k481 rfl rfl (Nat.le_of_ble_eq_true rfl) dL_law_1389 ⟨by decide, by decide⟩ ?_
                                                            refine j_stk (st' := [.int v483, .int v478]) rfl ?_
                                                            refine j_icmp_eq (tgt := 1420) E dL_law_1392 (by decide) (fun z485 => ?_) (fun z485 => ?_)
                                                            · have hf := ifp hf z485
                                                              refine j_iinc (v := (x3 + 8)) (k0 := 3) (lv' := [(3, .int (x3 + 8)), (0, .ref b), (1, .ref (ad x1)), (2, .ref (ad x2))]) E dL_law_1420 rfl (congrArg (fun z => x3 + z) (by decide)) (by decide) rfl ?_
                                                              refine j_goto (tgt := 18) E dL_law_1423 (by decide) ?_
                                                              refine j_perm (lv' := [(0, .ref b), (1, .ref (ad x1)), (2, .ref (ad x2)), (3, .int (x3 + 8))]) [1, 2, 3, 0] rfl ?_
                                                              exact ih k h482 (x3 + 8) hk hf
                                                            · have hf := ifn hf z485
                                                              refine j_iconst (v := 0) E dL_law_1395 (by decide) ?_
                                                              exact absurd (Option.some.inj hf) (by decide)
                                                          · have hf := ifn hf z474
                                                            by_cases z486 : (v2 &&& 31) = 27
                                                            · have hf := ifp hf z486
                                                              refine j_tabIn (off := 1364) (tgt := 1397) E dL_law_33 (by rw [z486]; decide) (by rw [z486]; decide) (by rw [z486]; decide) (by decide) ?_
                                                              refine j_aload_n E 1 rfl dL_law_1397 rfl ?_
                                                              refine j_aload_n E 0 rfl dL_law_1398 rfl ?_
                                                              refine j_iload_n E 3 rfl dL_law_1399 rfl ?_
                                                              refine j_iconst (v := 1) E dL_law_1400 (by decide) ?_
                                                              refine j_iadd E dL_law_1401 ?_
                                                              obtain ⟨v487, ev487, hf⟩ := bs hf
                                                              refine j_rdS E hX hbl hbA ev487 dL_law_1402 ?_
                                                              obtain ⟨k488, hf⟩ := ck_spec hf
                                                              obtain ⟨⟨h489, v490⟩, e491, hf⟩ := bs hf
                                                              refine j_callV (ci := 4) (b := x1) (As := [.int v487]) (rest := []) (v := (some (.int v490))) E (c_X5_width l D ad cy h x1 v487 e491) (mcwL E.1.2.2.2.2 uw_3_91 uw_3_88 uw_3_89 uw_3_90 uw_1_1 rfl rfl hd_X5_width ⟨by decide, by decide⟩) rfl k488 rfl rfl (Nat.le_of_ble_eq_true rfl) dL_law_1403 ⟨by decide, by decide⟩ ?_
                                                              refine j_stk (st' := [.int v490]) rfl ?_
                                                              refine j_aload_n E 2 rfl dL_law_1406 rfl ?_
                                                              refine j_aload_n E 0 rfl dL_law_1407 rfl ?_
                                                              refine j_iload_n E 3 rfl dL_law_1408 rfl ?_
                                                              refine j_iconst (v := 1) E dL_law_1409 (by decide) ?_
                                                              refine j_iadd E dL_law_1410 ?_
                                                              obtain ⟨v492, ev492, hf⟩ := bs hf
                                                              refine j_rdS E hX hbl hbA ev492 dL_law_1411 ?_
                                                              obtain ⟨k493, hf⟩ := ck_spec hf
                                                              obtain ⟨v494, e495, hf⟩ := bs hf
                                                              refine j_callV (ci := 5) (b := x2) (As := [.int v492]) (rest := [.int v490]) (v := (some (.int v494))) E (c_X6_width l D ad cy h489 x2 v492 e495) (mcwL E.1.2.2.2.2 uw_4_137 uw_4_134 uw_4_135 uw_4_136 uw_1_6 rfl rfl hd_X6_width ⟨by decide, by decide⟩) rfl k493 rfl rfl (Nat.le_of_ble_eq_true rfl) dL_law_1412 ⟨by decide, by decide⟩ ?_
                                                              refine j_stk (st' := [.int v494, .int v490]) rfl ?_
                                                              refine j_icmp_eq (tgt := 1420) E dL_law_1415 (by decide) (fun z496 => ?_) (fun z496 => ?_)
                                                              · have hf := ifp hf z496
                                                                refine j_iinc (v := (x3 + 8)) (k0 := 3) (lv' := [(3, .int (x3 + 8)), (0, .ref b), (1, .ref (ad x1)), (2, .ref (ad x2))]) E dL_law_1420 rfl (congrArg (fun z => x3 + z) (by decide)) (by decide) rfl ?_
                                                                refine j_goto (tgt := 18) E dL_law_1423 (by decide) ?_
                                                                refine j_perm (lv' := [(0, .ref b), (1, .ref (ad x1)), (2, .ref (ad x2)), (3, .int (x3 + 8))]) [1, 2, 3, 0] rfl ?_
                                                                exact ih k h489 (x3 + 8) hk hf
                                                              · have hf := ifn hf z496
                                                                refine j_iconst (v := 0) E dL_law_1418 (by decide) ?_
                                                                exact absurd (Option.some.inj hf) (by decide)
                                                            · have hf := ifn hf z486
                                                              refine j_tabOut (tgt := 1420) E dL_law_33 (sw_out (v2 &&& 31) 27 27 rfl (by decide) (fun k hk => match k, hk with | 0, _ => z3 | 1, _ => z19 | 2, _ => z37 | 3, _ => z49 | 4, _ => z59 | 5, _ => z71 | 6, _ => z83 | 7, _ => z97 | 8, _ => z111 | 9, _ => z123 | 10, _ => z143 | 11, _ => z155 | 12, _ => z179 | 13, _ => z195 | 14, _ => z211 | 15, _ => z255 | 16, _ => z269 | 17, _ => z283 | 18, _ => z330 | 19, _ => z368 | 20, _ => z384 | 21, _ => z398 | 22, _ => z416 | 23, _ => z434 | 24, _ => z449 | 25, _ => z462 | 26, _ => z474 | 27, _ => z486 | k + 28, hk => absurd hk (by omega))) (by decide) ?_
                                                              refine j_iinc (v := (x3 + 8)) (k0 := 3) (lv' := [(3, .int (x3 + 8)), (0, .ref b), (1, .ref (ad x1)), (2, .ref (ad x2))]) E dL_law_1420 rfl (congrArg (fun z => x3 + z) (by decide)) (by decide) rfl ?_
                                                              refine j_goto (tgt := 18) E dL_law_1423 (by decide) ?_
                                                              refine j_perm (lv' := [(0, .ref b), (1, .ref (ad x1)), (2, .ref (ad x2)), (3, .int (x3 + 8))]) [1, 2, 3, 0] rfl ?_
                                                              exact ih k h (x3 + 8) hk hf
