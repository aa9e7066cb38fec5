/-! THE LAW'S LOOP, a call at a time -/
def LwJ (L : Nat) (xs : Nat → Int32) (st : xS) (i : Nat) : Prop := (∃ G I, Rel st G I) ∧ st.2.2 40 = .inl (9, L, .inl xs) ∧ st.1 ≤ 52 + 9 * i ∧ st.2.1 ≤ 20000 + 1356 * i
def LB0 (n k : Nat) (st : xS) (a0 a1 a2 : Option Nat) (a3 : Int32) : Option (Int32 × xS) :=
  (aI st a0 (a3 + (1 : Int32))).bind fun v12 =>
  (aI st a0 (a3 + (2 : Int32))).bind fun v13 =>
  (aI st a0 (a3 + (3 : Int32))).bind fun v14 =>
  (aI st a0 (a3 + (4 : Int32))).bind fun v15 =>
  (aI st a0 (a3 + (5 : Int32))).bind fun v16 =>
  (isO st a1 10).bind fun q18 =>
  (F_X10_feed n st a1 v12 v13 v14 v15 v16).bind fun p17 =>
  (aI p17.2 a0 (a3 + (1 : Int32))).bind fun v19 =>
  (aI p17.2 a0 (a3 + (2 : Int32))).bind fun v20 =>
  (aI p17.2 a0 (a3 + (3 : Int32))).bind fun v21 =>
  (aI p17.2 a0 (a3 + (4 : Int32))).bind fun v22 =>
  (aI p17.2 a0 (a3 + (5 : Int32))).bind fun v23 =>
  (isO p17.2 a2 11).bind fun q25 =>
  (F_X11_feed n p17.2 a2 v19 v20 v21 v22 v23).bind fun p24 =>
  if p17.1 = p24.1 then
    (some (a3 + (9 : Int32))).bind fun v26 =>
    F_L_law_L18 n k p24.2 a0 a1 a2 v26
  else
    (rz (0 : Int32)).bind fun v27 =>
    some (v27, p24.2)
def LB1 (n k : Nat) (st : xS) (a0 a1 a2 : Option Nat) (a3 : Int32) : Option (Int32 × xS) :=
  (aI st a0 (a3 + (1 : Int32))).bind fun v28 =>
  (isO st a1 10).bind fun q30 =>
  (F_X10_end n st a1 v28).bind fun p29 =>
  (aI p29.2 a0 (a3 + (1 : Int32))).bind fun v31 =>
  (isO p29.2 a2 11).bind fun q33 =>
  (F_X11_end n p29.2 a2 v31).bind fun p32 =>
  if p29.1 = p32.1 then
    (some (a3 + (9 : Int32))).bind fun v34 =>
    F_L_law_L18 n k p32.2 a0 a1 a2 v34
  else
    (rz (0 : Int32)).bind fun v35 =>
    some (v35, p32.2)
def LB2 (n k : Nat) (st : xS) (a0 a1 a2 : Option Nat) (a3 : Int32) : Option (Int32 × xS) :=
  (aI st a0 (a3 + (1 : Int32))).bind fun v36 =>
  (aI st a0 (a3 + (2 : Int32))).bind fun v37 =>
  (isO st a1 10).bind fun q39 =>
  (F_X10_text n st a1 v36 v37).bind fun p38 =>
  (aI p38.2 a0 (a3 + (1 : Int32))).bind fun v40 =>
  (aI p38.2 a0 (a3 + (2 : Int32))).bind fun v41 =>
  (isO p38.2 a2 11).bind fun q43 =>
  (F_X11_text n p38.2 a2 v40 v41).bind fun p42 =>
  if p38.1 = p42.1 then
    (some (a3 + (9 : Int32))).bind fun v44 =>
    F_L_law_L18 n k p42.2 a0 a1 a2 v44
  else
    (rz (0 : Int32)).bind fun v45 =>
    some (v45, p42.2)
def LB3 (n k : Nat) (st : xS) (a0 a1 a2 : Option Nat) (a3 : Int32) : Option (Int32 × xS) :=
  (aI st a0 (a3 + (1 : Int32))).bind fun v46 =>
  (isO st a1 10).bind fun q48 =>
  (F_X10_fault n st a1 v46).bind fun v47 =>
  (aI st a0 (a3 + (1 : Int32))).bind fun v49 =>
  (isO st a2 11).bind fun q51 =>
  (F_X11_fault n st a2 v49).bind fun v50 =>
  if v47 = v50 then
    (some (a3 + (9 : Int32))).bind fun v52 =>
    F_L_law_L18 n k st a0 a1 a2 v52
  else
    (rz (0 : Int32)).bind fun v53 =>
    some (v53, st)
def LB4 (n k : Nat) (st : xS) (a0 a1 a2 : Option Nat) (a3 : Int32) : Option (Int32 × xS) :=
  (aI st a0 (a3 + (1 : Int32))).bind fun v54 =>
  (aI st a0 (a3 + (2 : Int32))).bind fun v55 =>
  (isO st a1 10).bind fun q57 =>
  (F_X10_league n st a1 v54 v55).bind fun v56 =>
  (aI st a0 (a3 + (1 : Int32))).bind fun v58 =>
  (aI st a0 (a3 + (2 : Int32))).bind fun v59 =>
  (isO st a2 11).bind fun q61 =>
  (F_X11_league n st a2 v58 v59).bind fun v60 =>
  if v56 = v60 then
    (some (a3 + (9 : Int32))).bind fun v62 =>
    F_L_law_L18 n k st a0 a1 a2 v62
  else
    (rz (0 : Int32)).bind fun v63 =>
    some (v63, st)
def LB5 (n k : Nat) (st : xS) (a0 a1 a2 : Option Nat) (a3 : Int32) : Option (Int32 × xS) :=
  (aI st a0 (a3 + (1 : Int32))).bind fun v64 =>
  (aI st a0 (a3 + (2 : Int32))).bind fun v65 =>
  (aI st a0 (a3 + (3 : Int32))).bind fun v66 =>
  (isO st a1 10).bind fun q68 =>
  (F_X10_miles n st a1 v64 v65 v66).bind fun v67 =>
  (aI st a0 (a3 + (1 : Int32))).bind fun v69 =>
  (aI st a0 (a3 + (2 : Int32))).bind fun v70 =>
  (aI st a0 (a3 + (3 : Int32))).bind fun v71 =>
  (isO st a2 11).bind fun q73 =>
  (F_X11_miles n st a2 v69 v70 v71).bind fun v72 =>
  if v67 = v72 then
    (some (a3 + (9 : Int32))).bind fun v74 =>
    F_L_law_L18 n k st a0 a1 a2 v74
  else
    (rz (0 : Int32)).bind fun v75 =>
    some (v75, st)
def LB6 (n k : Nat) (st : xS) (a0 a1 a2 : Option Nat) (a3 : Int32) : Option (Int32 × xS) :=
  (aI st a0 (a3 + (1 : Int32))).bind fun v76 =>
  (aI st a0 (a3 + (2 : Int32))).bind fun v77 =>
  (isO st a1 10).bind fun q79 =>
  (F_X10_law n st a1 v76 v77).bind fun v78 =>
  (aI st a0 (a3 + (1 : Int32))).bind fun v80 =>
  (aI st a0 (a3 + (2 : Int32))).bind fun v81 =>
  (isO st a2 11).bind fun q83 =>
  (F_X11_law n st a2 v80 v81).bind fun v82 =>
  if v78 = v82 then
    (some (a3 + (9 : Int32))).bind fun v84 =>
    F_L_law_L18 n k st a0 a1 a2 v84
  else
    (rz (0 : Int32)).bind fun v85 =>
    some (v85, st)
def LB7 (n k : Nat) (st : xS) (a0 a1 a2 : Option Nat) (a3 : Int32) : Option (Int32 × xS) :=
  (aI st a0 (a3 + (1 : Int32))).bind fun v86 =>
  (aI st a0 (a3 + (2 : Int32))).bind fun v87 =>
  (aI st a0 (a3 + (3 : Int32))).bind fun v88 =>
  (isO st a1 10).bind fun q90 =>
  (F_X10_plan n st a1 v86 v87 v88).bind fun v89 =>
  (aI st a0 (a3 + (1 : Int32))).bind fun v91 =>
  (aI st a0 (a3 + (2 : Int32))).bind fun v92 =>
  (aI st a0 (a3 + (3 : Int32))).bind fun v93 =>
  (isO st a2 11).bind fun q95 =>
  (F_X11_plan n st a2 v91 v92 v93).bind fun v94 =>
  if v89 = v94 then
    (some (a3 + (9 : Int32))).bind fun v96 =>
    F_L_law_L18 n k st a0 a1 a2 v96
  else
    (rz (0 : Int32)).bind fun v97 =>
    some (v97, st)
def LB8 (n k : Nat) (st : xS) (a0 a1 a2 : Option Nat) (a3 : Int32) : Option (Int32 × xS) :=
  (aI st a0 (a3 + (1 : Int32))).bind fun v98 =>
  (aI st a0 (a3 + (2 : Int32))).bind fun v99 =>
  (isO st a1 10).bind fun q101 =>
  (F_X10_goes n st a1 v98 v99).bind fun p100 =>
  (aI p100.2 a0 (a3 + (1 : Int32))).bind fun v102 =>
  (aI p100.2 a0 (a3 + (2 : Int32))).bind fun v103 =>
  (isO p100.2 a2 11).bind fun q105 =>
  (F_X11_goes n p100.2 a2 v102 v103).bind fun v104 =>
  if p100.1 = v104 then
    (some (a3 + (9 : Int32))).bind fun v106 =>
    F_L_law_L18 n k p100.2 a0 a1 a2 v106
  else
    (rz (0 : Int32)).bind fun v107 =>
    some (v107, p100.2)
def LB9 (n k : Nat) (st : xS) (a0 a1 a2 : Option Nat) (a3 : Int32) : Option (Int32 × xS) :=
  (aI st a0 (a3 + (1 : Int32))).bind fun v108 =>
  (aI st a0 (a3 + (2 : Int32))).bind fun v109 =>
  (aI st a0 (a3 + (3 : Int32))).bind fun v110 =>
  (aI st a0 (a3 + (4 : Int32))).bind fun v111 =>
  (aI st a0 (a3 + (5 : Int32))).bind fun v112 =>
  (isO st a1 10).bind fun q114 =>
  (F_X10_worth n st a1 v108 v109 v110 v111 v112).bind fun p113 =>
  (aI p113.2 a0 (a3 + (1 : Int32))).bind fun v115 =>
  (aI p113.2 a0 (a3 + (2 : Int32))).bind fun v116 =>
  (aI p113.2 a0 (a3 + (3 : Int32))).bind fun v117 =>
  (aI p113.2 a0 (a3 + (4 : Int32))).bind fun v118 =>
  (aI p113.2 a0 (a3 + (5 : Int32))).bind fun v119 =>
  (isO p113.2 a2 11).bind fun q121 =>
  (F_X11_worth n p113.2 a2 v115 v116 v117 v118 v119).bind fun v120 =>
  if p113.1 = v120 then
    (some (a3 + (9 : Int32))).bind fun v122 =>
    F_L_law_L18 n k p113.2 a0 a1 a2 v122
  else
    (rz (0 : Int32)).bind fun v123 =>
    some (v123, p113.2)
def LB10 (n k : Nat) (st : xS) (a0 a1 a2 : Option Nat) (a3 : Int32) : Option (Int32 × xS) :=
  (aI st a0 (a3 + (1 : Int32))).bind fun v124 =>
  (aI st a0 (a3 + (2 : Int32))).bind fun v125 =>
  (aI st a0 (a3 + (3 : Int32))).bind fun v126 =>
  (aI st a0 (a3 + (4 : Int32))).bind fun v127 =>
  (aI st a0 (a3 + (5 : Int32))).bind fun v128 =>
  (isO st a1 10).bind fun q130 =>
  (F_X10_chance n st a1 v124 v125 v126 v127 v128).bind fun p129 =>
  (aI p129.2 a0 (a3 + (1 : Int32))).bind fun v131 =>
  (aI p129.2 a0 (a3 + (2 : Int32))).bind fun v132 =>
  (aI p129.2 a0 (a3 + (3 : Int32))).bind fun v133 =>
  (aI p129.2 a0 (a3 + (4 : Int32))).bind fun v134 =>
  (aI p129.2 a0 (a3 + (5 : Int32))).bind fun v135 =>
  (isO p129.2 a2 11).bind fun q137 =>
  (F_X11_chance n p129.2 a2 v131 v132 v133 v134 v135).bind fun v136 =>
  if (lg_cmp p129.1 v136) = (0 : Int32) then
    (some (a3 + (9 : Int32))).bind fun v138 =>
    F_L_law_L18 n k p129.2 a0 a1 a2 v138
  else
    (rz (0 : Int32)).bind fun v139 =>
    some (v139, p129.2)
def LB11 (n k : Nat) (st : xS) (a0 a1 a2 : Option Nat) (a3 : Int32) : Option (Int32 × xS) :=
  (aI st a0 (a3 + (1 : Int32))).bind fun v140 =>
  (aI st a0 (a3 + (2 : Int32))).bind fun v141 =>
  (aI st a0 (a3 + (3 : Int32))).bind fun v142 =>
  (aI st a0 (a3 + (4 : Int32))).bind fun v143 =>
  (aI st a0 (a3 + (5 : Int32))).bind fun v144 =>
  (isO st a1 10).bind fun q146 =>
  (F_X10_play n st a1 v140 v141 v142 v143 v144).bind fun p145 =>
  (aI p145.2 a0 (a3 + (1 : Int32))).bind fun v147 =>
  (aI p145.2 a0 (a3 + (2 : Int32))).bind fun v148 =>
  (aI p145.2 a0 (a3 + (3 : Int32))).bind fun v149 =>
  (aI p145.2 a0 (a3 + (4 : Int32))).bind fun v150 =>
  (aI p145.2 a0 (a3 + (5 : Int32))).bind fun v151 =>
  (isO p145.2 a2 11).bind fun q153 =>
  (F_X11_play n p145.2 a2 v147 v148 v149 v150 v151).bind fun p152 =>
  if p145.1 = p152.1 then
    (some (a3 + (9 : Int32))).bind fun v154 =>
    F_L_law_L18 n k p152.2 a0 a1 a2 v154
  else
    (rz (0 : Int32)).bind fun v155 =>
    some (v155, p152.2)
def LB12 (n k : Nat) (st : xS) (a0 a1 a2 : Option Nat) (a3 : Int32) : Option (Int32 × xS) :=
  (aI st a0 (a3 + (1 : Int32))).bind fun v156 =>
  (aI st a0 (a3 + (2 : Int32))).bind fun v157 =>
  (aI st a0 (a3 + (3 : Int32))).bind fun v158 =>
  (aI st a0 (a3 + (4 : Int32))).bind fun v159 =>
  (aI st a0 (a3 + (5 : Int32))).bind fun v160 =>
  (aI st a0 (a3 + (6 : Int32))).bind fun v161 =>
  (aI st a0 (a3 + (7 : Int32))).bind fun v162 =>
  (aI st a0 (a3 + (8 : Int32))).bind fun v163 =>
  (isO st a1 10).bind fun q165 =>
  (F_X10_note n st a1 v156 v157 v158 v159 v160 v161 v162 v163).bind fun p164 =>
  (aI p164.2 a0 (a3 + (1 : Int32))).bind fun v166 =>
  (aI p164.2 a0 (a3 + (2 : Int32))).bind fun v167 =>
  (aI p164.2 a0 (a3 + (3 : Int32))).bind fun v168 =>
  (aI p164.2 a0 (a3 + (4 : Int32))).bind fun v169 =>
  (aI p164.2 a0 (a3 + (5 : Int32))).bind fun v170 =>
  (aI p164.2 a0 (a3 + (6 : Int32))).bind fun v171 =>
  (aI p164.2 a0 (a3 + (7 : Int32))).bind fun v172 =>
  (aI p164.2 a0 (a3 + (8 : Int32))).bind fun v173 =>
  (isO p164.2 a2 11).bind fun q175 =>
  (F_X11_note n p164.2 a2 v166 v167 v168 v169 v170 v171 v172 v173).bind fun p174 =>
  if p164.1 = p174.1 then
    (some (a3 + (9 : Int32))).bind fun v176 =>
    F_L_law_L18 n k p174.2 a0 a1 a2 v176
  else
    (rz (0 : Int32)).bind fun v177 =>
    some (v177, p174.2)
def LB13 (n k : Nat) (st : xS) (a0 a1 a2 : Option Nat) (a3 : Int32) : Option (Int32 × xS) :=
  (aI st a0 (a3 + (1 : Int32))).bind fun v178 =>
  (aI st a0 (a3 + (2 : Int32))).bind fun v179 =>
  (isO st a1 10).bind fun q181 =>
  (F_X10_noted n st a1 v178 v179).bind fun v180 =>
  (aI st a0 (a3 + (1 : Int32))).bind fun v182 =>
  (aI st a0 (a3 + (2 : Int32))).bind fun v183 =>
  (isO st a2 11).bind fun q185 =>
  (F_X11_noted n st a2 v182 v183).bind fun v184 =>
  if v180 = v184 then
    (some (a3 + (9 : Int32))).bind fun v186 =>
    F_L_law_L18 n k st a0 a1 a2 v186
  else
    (rz (0 : Int32)).bind fun v187 =>
    some (v187, st)
def LB14 (n k : Nat) (st : xS) (a0 a1 a2 : Option Nat) (a3 : Int32) : Option (Int32 × xS) :=
  (aI st a0 (a3 + (1 : Int32))).bind fun v188 =>
  (aI st a0 (a3 + (2 : Int32))).bind fun v189 =>
  (aI st a0 (a3 + (3 : Int32))).bind fun v190 =>
  (isO st a1 10).bind fun q192 =>
  (F_X10_sum n st a1 v188 v189 v190).bind fun p191 =>
  (aI p191.2 a0 (a3 + (1 : Int32))).bind fun v193 =>
  (aI p191.2 a0 (a3 + (2 : Int32))).bind fun v194 =>
  (aI p191.2 a0 (a3 + (3 : Int32))).bind fun v195 =>
  (isO p191.2 a2 11).bind fun q197 =>
  (F_X11_sum n p191.2 a2 v193 v194 v195).bind fun v196 =>
  if p191.1 = v196 then
    (some (a3 + (9 : Int32))).bind fun v198 =>
    F_L_law_L18 n k p191.2 a0 a1 a2 v198
  else
    (rz (0 : Int32)).bind fun v199 =>
    some (v199, p191.2)
def LB15 (n k : Nat) (st : xS) (a0 a1 a2 : Option Nat) (a3 : Int32) : Option (Int32 × xS) :=
  (aI st a0 (a3 + (1 : Int32))).bind fun v200 =>
  (aI st a0 (a3 + (2 : Int32))).bind fun v201 =>
  (aI st a0 (a3 + (3 : Int32))).bind fun v202 =>
  (isO st a1 10).bind fun q204 =>
  (F_X10_table n st a1 v200 v201 v202).bind fun p203 =>
  (aI p203.2 a0 (a3 + (1 : Int32))).bind fun v205 =>
  (aI p203.2 a0 (a3 + (2 : Int32))).bind fun v206 =>
  (aI p203.2 a0 (a3 + (3 : Int32))).bind fun v207 =>
  (isO p203.2 a2 11).bind fun q209 =>
  (F_X11_table n p203.2 a2 v205 v206 v207).bind fun v208 =>
  if p203.1 = v208 then
    (some (a3 + (9 : Int32))).bind fun v210 =>
    F_L_law_L18 n k p203.2 a0 a1 a2 v210
  else
    (rz (0 : Int32)).bind fun v211 =>
    some (v211, p203.2)
def LB16 (n k : Nat) (st : xS) (a0 a1 a2 : Option Nat) (a3 : Int32) : Option (Int32 × xS) :=
  (aI st a0 (a3 + (1 : Int32))).bind fun v212 =>
  (aI st a0 (a3 + (2 : Int32))).bind fun v213 =>
  (aI st a0 (a3 + (3 : Int32))).bind fun v214 =>
  (isO st a1 10).bind fun q216 =>
  (F_X10_points n st a1 v212 v213 v214).bind fun p215 =>
  (aI p215.2 a0 (a3 + (1 : Int32))).bind fun v217 =>
  (aI p215.2 a0 (a3 + (2 : Int32))).bind fun v218 =>
  (aI p215.2 a0 (a3 + (3 : Int32))).bind fun v219 =>
  (isO p215.2 a2 11).bind fun q221 =>
  (F_X11_points n p215.2 a2 v217 v218 v219).bind fun v220 =>
  if p215.1 = v220 then
    (some (a3 + (9 : Int32))).bind fun v222 =>
    F_L_law_L18 n k p215.2 a0 a1 a2 v222
  else
    (rz (0 : Int32)).bind fun v223 =>
    some (v223, p215.2)
def LB17 (n k : Nat) (st : xS) (a0 a1 a2 : Option Nat) (a3 : Int32) : Option (Int32 × xS) :=
  (aI st a0 (a3 + (1 : Int32))).bind fun v224 =>
  (aI st a0 (a3 + (2 : Int32))).bind fun v225 =>
  (aI st a0 (a3 + (3 : Int32))).bind fun v226 =>
  ((if v226 = (0 : Int32) then
      some (0 : Int32)
    else
      some (1 : Int32)) : Option (Int32)).bind fun q227 =>
  (isO st a1 10).bind fun q229 =>
  (F_X10_alone n st a1 v224 v225 q227).bind fun p228 =>
  (aI p228.2 a0 (a3 + (1 : Int32))).bind fun v230 =>
  (aI p228.2 a0 (a3 + (2 : Int32))).bind fun v231 =>
  (aI p228.2 a0 (a3 + (3 : Int32))).bind fun v232 =>
  ((if v232 = (0 : Int32) then
      some (0 : Int32)
    else
      some (1 : Int32)) : Option (Int32)).bind fun q233 =>
  (isO p228.2 a2 11).bind fun q235 =>
  (F_X11_alone n p228.2 a2 v230 v231 q233).bind fun p234 =>
  if p228.1 = p234.1 then
    (some (a3 + (9 : Int32))).bind fun v236 =>
    F_L_law_L18 n k p234.2 a0 a1 a2 v236
  else
    (rz (0 : Int32)).bind fun v237 =>
    some (v237, p234.2)
def LB18 (n k : Nat) (st : xS) (a0 a1 a2 : Option Nat) (a3 : Int32) : Option (Int32 × xS) :=
  (aI st a0 (a3 + (1 : Int32))).bind fun v238 =>
  (aI st a0 (a3 + (2 : Int32))).bind fun v239 =>
  (aI st a0 (a3 + (3 : Int32))).bind fun v240 =>
  (aI st a0 (a3 + (4 : Int32))).bind fun v241 =>
  ((if v241 = (0 : Int32) then
      some (0 : Int32)
    else
      some (1 : Int32)) : Option (Int32)).bind fun q242 =>
  (isO st a1 10).bind fun q244 =>
  (F_X10_both n st a1 v238 v239 v240 q242).bind fun p243 =>
  (aI p243.2 a0 (a3 + (1 : Int32))).bind fun v245 =>
  (aI p243.2 a0 (a3 + (2 : Int32))).bind fun v246 =>
  (aI p243.2 a0 (a3 + (3 : Int32))).bind fun v247 =>
  (aI p243.2 a0 (a3 + (4 : Int32))).bind fun v248 =>
  ((if v248 = (0 : Int32) then
      some (0 : Int32)
    else
      some (1 : Int32)) : Option (Int32)).bind fun q249 =>
  (isO p243.2 a2 11).bind fun q251 =>
  (F_X11_both n p243.2 a2 v245 v246 v247 q249).bind fun p250 =>
  if (lg_cmp p243.1 p250.1) = (0 : Int32) then
    (some (a3 + (9 : Int32))).bind fun v252 =>
    F_L_law_L18 n k p250.2 a0 a1 a2 v252
  else
    (rz (0 : Int32)).bind fun v253 =>
    some (v253, p250.2)
def LB19 (n k : Nat) (st : xS) (a0 a1 a2 : Option Nat) (a3 : Int32) : Option (Int32 × xS) :=
  (aI st a0 (a3 + (1 : Int32))).bind fun v254 =>
  (aI st a0 (a3 + (2 : Int32))).bind fun v255 =>
  (aI st a0 (a3 + (3 : Int32))).bind fun v256 =>
  ((if v256 = (0 : Int32) then
      some (0 : Int32)
    else
      some (1 : Int32)) : Option (Int32)).bind fun q257 =>
  (isO st a1 10).bind fun q259 =>
  (F_X10_off n st a1 v254 v255 q257).bind fun p258 =>
  (aI p258.2 a0 (a3 + (1 : Int32))).bind fun v260 =>
  (aI p258.2 a0 (a3 + (2 : Int32))).bind fun v261 =>
  (aI p258.2 a0 (a3 + (3 : Int32))).bind fun v262 =>
  ((if v262 = (0 : Int32) then
      some (0 : Int32)
    else
      some (1 : Int32)) : Option (Int32)).bind fun q263 =>
  (isO p258.2 a2 11).bind fun q265 =>
  (F_X11_off n p258.2 a2 v260 v261 q263).bind fun p264 =>
  if (lg_cmp p258.1 p264.1) = (0 : Int32) then
    (some (a3 + (9 : Int32))).bind fun v266 =>
    F_L_law_L18 n k p264.2 a0 a1 a2 v266
  else
    (rz (0 : Int32)).bind fun v267 =>
    some (v267, p264.2)
def LB20 (n k : Nat) (st : xS) (a0 a1 a2 : Option Nat) (a3 : Int32) : Option (Int32 × xS) :=
  (aI st a0 (a3 + (1 : Int32))).bind fun v268 =>
  (aI st a0 (a3 + (2 : Int32))).bind fun v269 =>
  (aI st a0 (a3 + (3 : Int32))).bind fun v270 =>
  (aI st a0 (a3 + (4 : Int32))).bind fun v271 =>
  ((if v271 = (0 : Int32) then
      some (0 : Int32)
    else
      some (1 : Int32)) : Option (Int32)).bind fun q272 =>
  (isO st a1 10).bind fun q274 =>
  (F_X10_people n st a1 v268 v269 v270 q272).bind fun p273 =>
  (aI p273.2 a0 (a3 + (1 : Int32))).bind fun v275 =>
  (aI p273.2 a0 (a3 + (2 : Int32))).bind fun v276 =>
  (aI p273.2 a0 (a3 + (3 : Int32))).bind fun v277 =>
  (aI p273.2 a0 (a3 + (4 : Int32))).bind fun v278 =>
  ((if v278 = (0 : Int32) then
      some (0 : Int32)
    else
      some (1 : Int32)) : Option (Int32)).bind fun q279 =>
  (isO p273.2 a2 11).bind fun q281 =>
  (F_X11_people n p273.2 a2 v275 v276 v277 q279).bind fun p280 =>
  if p273.1 = p280.1 then
    (some (a3 + (9 : Int32))).bind fun v282 =>
    F_L_law_L18 n k p280.2 a0 a1 a2 v282
  else
    (rz (0 : Int32)).bind fun v283 =>
    some (v283, p280.2)
def LB21 (n k : Nat) (st : xS) (a0 a1 a2 : Option Nat) (a3 : Int32) : Option (Int32 × xS) :=
  (aI st a0 (a3 + (1 : Int32))).bind fun v284 =>
  (aI st a0 (a3 + (2 : Int32))).bind fun v285 =>
  (aI st a0 (a3 + (3 : Int32))).bind fun v286 =>
  ((if v286 = (0 : Int32) then
      some (0 : Int32)
    else
      some (1 : Int32)) : Option (Int32)).bind fun q287 =>
  (isO st a1 10).bind fun q289 =>
  (F_X10_slope n st a1 v284 v285 q287).bind fun p288 =>
  (aI p288.2 a0 (a3 + (1 : Int32))).bind fun v290 =>
  (aI p288.2 a0 (a3 + (2 : Int32))).bind fun v291 =>
  (aI p288.2 a0 (a3 + (3 : Int32))).bind fun v292 =>
  ((if v292 = (0 : Int32) then
      some (0 : Int32)
    else
      some (1 : Int32)) : Option (Int32)).bind fun q293 =>
  (isO p288.2 a2 11).bind fun q295 =>
  (F_X11_slope n p288.2 a2 v290 v291 q293).bind fun v294 =>
  if p288.1 = v294 then
    (some (a3 + (9 : Int32))).bind fun v296 =>
    F_L_law_L18 n k p288.2 a0 a1 a2 v296
  else
    (rz (0 : Int32)).bind fun v297 =>
    some (v297, p288.2)
def LB22 (n k : Nat) (st : xS) (a0 a1 a2 : Option Nat) (a3 : Int32) : Option (Int32 × xS) :=
  (aI st a0 (a3 + (1 : Int32))).bind fun v298 =>
  (aI st a0 (a3 + (2 : Int32))).bind fun v299 =>
  (aI st a0 (a3 + (3 : Int32))).bind fun v300 =>
  (aI st a0 (a3 + (4 : Int32))).bind fun v301 =>
  ((if v301 = (0 : Int32) then
      some (0 : Int32)
    else
      some (1 : Int32)) : Option (Int32)).bind fun q302 =>
  (isO st a1 10).bind fun q304 =>
  (F_X10_odds n st a1 v298 v299 v300 q302).bind fun p303 =>
  (aI p303.2 a0 (a3 + (1 : Int32))).bind fun v305 =>
  (aI p303.2 a0 (a3 + (2 : Int32))).bind fun v306 =>
  (aI p303.2 a0 (a3 + (3 : Int32))).bind fun v307 =>
  (aI p303.2 a0 (a3 + (4 : Int32))).bind fun v308 =>
  ((if v308 = (0 : Int32) then
      some (0 : Int32)
    else
      some (1 : Int32)) : Option (Int32)).bind fun q309 =>
  (isO p303.2 a2 11).bind fun q311 =>
  (F_X11_odds n p303.2 a2 v305 v306 v307 q309).bind fun p310 =>
  if (lg_cmp p303.1 p310.1) = (0 : Int32) then
    (some (a3 + (9 : Int32))).bind fun v312 =>
    F_L_law_L18 n k p310.2 a0 a1 a2 v312
  else
    (rz (0 : Int32)).bind fun v313 =>
    some (v313, p310.2)
def LB23 (n k : Nat) (st : xS) (a0 a1 a2 : Option Nat) (a3 : Int32) : Option (Int32 × xS) :=
  (aI st a0 (a3 + (1 : Int32))).bind fun v314 =>
  (aI st a0 (a3 + (2 : Int32))).bind fun v315 =>
  (aI st a0 (a3 + (3 : Int32))).bind fun v316 =>
  (isO st a1 10).bind fun q318 =>
  (F_X10_carded n st a1 v314 v315 v316).bind fun p317 =>
  (aI p317.2 a0 (a3 + (1 : Int32))).bind fun v319 =>
  (aI p317.2 a0 (a3 + (2 : Int32))).bind fun v320 =>
  (aI p317.2 a0 (a3 + (3 : Int32))).bind fun v321 =>
  (isO p317.2 a2 11).bind fun q323 =>
  (F_X11_carded n p317.2 a2 v319 v320 v321).bind fun v322 =>
  if p317.1 = v322 then
    (some (a3 + (9 : Int32))).bind fun v324 =>
    F_L_law_L18 n k p317.2 a0 a1 a2 v324
  else
    (rz (0 : Int32)).bind fun v325 =>
    some (v325, p317.2)
def LB24 (n k : Nat) (st : xS) (a0 a1 a2 : Option Nat) (a3 : Int32) : Option (Int32 × xS) :=
  (aI st a0 (a3 + (1 : Int32))).bind fun v326 =>
  (aI st a0 (a3 + (2 : Int32))).bind fun v327 =>
  (aI st a0 (a3 + (3 : Int32))).bind fun v328 =>
  (aI st a0 (a3 + (4 : Int32))).bind fun v329 =>
  ((if v329 = (0 : Int32) then
      some (0 : Int32)
    else
      some (1 : Int32)) : Option (Int32)).bind fun q330 =>
  (isO st a1 10).bind fun q332 =>
  (F_X10_longer n st a1 v326 v327 v328 q330).bind fun p331 =>
  (aI p331.2 a0 (a3 + (1 : Int32))).bind fun v333 =>
  (aI p331.2 a0 (a3 + (2 : Int32))).bind fun v334 =>
  (aI p331.2 a0 (a3 + (3 : Int32))).bind fun v335 =>
  (aI p331.2 a0 (a3 + (4 : Int32))).bind fun v336 =>
  ((if v336 = (0 : Int32) then
      some (0 : Int32)
    else
      some (1 : Int32)) : Option (Int32)).bind fun q337 =>
  (isO p331.2 a2 11).bind fun q339 =>
  (F_X11_longer n p331.2 a2 v333 v334 v335 q337).bind fun p338 =>
  if p331.1 = p338.1 then
    (some (a3 + (9 : Int32))).bind fun v340 =>
    F_L_law_L18 n k p338.2 a0 a1 a2 v340
  else
    (rz (0 : Int32)).bind fun v341 =>
    some (v341, p338.2)
def LB25 (n k : Nat) (st : xS) (a0 a1 a2 : Option Nat) (a3 : Int32) : Option (Int32 × xS) :=
  (aI st a0 (a3 + (1 : Int32))).bind fun v342 =>
  (aI st a0 (a3 + (2 : Int32))).bind fun v343 =>
  (aI st a0 (a3 + (3 : Int32))).bind fun v344 =>
  (isO st a1 10).bind fun q346 =>
  (F_X10_fresh n st a1 v342 v343 v344).bind fun p345 =>
  (aI p345.2 a0 (a3 + (1 : Int32))).bind fun v347 =>
  (aI p345.2 a0 (a3 + (2 : Int32))).bind fun v348 =>
  (aI p345.2 a0 (a3 + (3 : Int32))).bind fun v349 =>
  (isO p345.2 a2 11).bind fun q351 =>
  (F_X11_fresh n p345.2 a2 v347 v348 v349).bind fun p350 =>
  if p345.1 = p350.1 then
    (some (a3 + (9 : Int32))).bind fun v352 =>
    F_L_law_L18 n k p350.2 a0 a1 a2 v352
  else
    (rz (0 : Int32)).bind fun v353 =>
    some (v353, p350.2)
def LB26 (n k : Nat) (st : xS) (a0 a1 a2 : Option Nat) (a3 : Int32) : Option (Int32 × xS) :=
  (aI st a0 (a3 + (1 : Int32))).bind fun v354 =>
  (aI st a0 (a3 + (2 : Int32))).bind fun v355 =>
  ((if v355 = (0 : Int32) then
      some (0 : Int32)
    else
      some (1 : Int32)) : Option (Int32)).bind fun q356 =>
  (aI st a0 (a3 + (3 : Int32))).bind fun v357 =>
  (aI st a0 (a3 + (4 : Int32))).bind fun v358 =>
  (isO st a1 10).bind fun q360 =>
  (F_X10_films n st a1 v354 q356 v357 v358).bind fun p359 =>
  (aI p359.2 a0 (a3 + (1 : Int32))).bind fun v361 =>
  (aI p359.2 a0 (a3 + (2 : Int32))).bind fun v362 =>
  ((if v362 = (0 : Int32) then
      some (0 : Int32)
    else
      some (1 : Int32)) : Option (Int32)).bind fun q363 =>
  (aI p359.2 a0 (a3 + (3 : Int32))).bind fun v364 =>
  (aI p359.2 a0 (a3 + (4 : Int32))).bind fun v365 =>
  (isO p359.2 a2 11).bind fun q367 =>
  (F_X11_films n p359.2 a2 v361 q363 v364 v365).bind fun p366 =>
  if p359.1 = p366.1 then
    (some (a3 + (9 : Int32))).bind fun v368 =>
    F_L_law_L18 n k p366.2 a0 a1 a2 v368
  else
    (rz (0 : Int32)).bind fun v369 =>
    some (v369, p366.2)
def LB27 (n k : Nat) (st : xS) (a0 a1 a2 : Option Nat) (a3 : Int32) : Option (Int32 × xS) :=
  (aI st a0 (a3 + (1 : Int32))).bind fun v370 =>
  (aI st a0 (a3 + (2 : Int32))).bind fun v371 =>
  ((if v371 = (0 : Int32) then
      some (0 : Int32)
    else
      some (1 : Int32)) : Option (Int32)).bind fun q372 =>
  (isO st a1 10).bind fun q374 =>
  (F_X10_looser n st a1 v370 q372).bind fun v373 =>
  (aI st a0 (a3 + (1 : Int32))).bind fun v375 =>
  (aI st a0 (a3 + (2 : Int32))).bind fun v376 =>
  ((if v376 = (0 : Int32) then
      some (0 : Int32)
    else
      some (1 : Int32)) : Option (Int32)).bind fun q377 =>
  (isO st a2 11).bind fun q379 =>
  (F_X11_looser n st a2 v375 q377).bind fun p378 =>
  if (lg_cmp v373 p378.1) = (0 : Int32) then
    (some (a3 + (9 : Int32))).bind fun v380 =>
    F_L_law_L18 n k p378.2 a0 a1 a2 v380
  else
    (rz (0 : Int32)).bind fun v381 =>
    some (v381, p378.2)
def LB28 (n k : Nat) (st : xS) (a0 a1 a2 : Option Nat) (a3 : Int32) : Option (Int32 × xS) :=
  (aI st a0 (a3 + (1 : Int32))).bind fun v382 =>
  (aI st a0 (a3 + (2 : Int32))).bind fun v383 =>
  (aI st a0 (a3 + (3 : Int32))).bind fun v384 =>
  (isO st a1 10).bind fun q386 =>
  (F_X10_had n st a1 v382 v383 v384).bind fun p385 =>
  (aI p385.2 a0 (a3 + (1 : Int32))).bind fun v387 =>
  (aI p385.2 a0 (a3 + (2 : Int32))).bind fun v388 =>
  (aI p385.2 a0 (a3 + (3 : Int32))).bind fun v389 =>
  (isO p385.2 a2 11).bind fun q391 =>
  (F_X11_had n p385.2 a2 v387 v388 v389).bind fun v390 =>
  if p385.1 = v390 then
    (some (a3 + (9 : Int32))).bind fun v392 =>
    F_L_law_L18 n k p385.2 a0 a1 a2 v392
  else
    (rz (0 : Int32)).bind fun v393 =>
    some (v393, p385.2)
def LB29 (n k : Nat) (st : xS) (a0 a1 a2 : Option Nat) (a3 : Int32) : Option (Int32 × xS) :=
  (aI st a0 (a3 + (1 : Int32))).bind fun v394 =>
  (aI st a0 (a3 + (2 : Int32))).bind fun v395 =>
  (aI st a0 (a3 + (3 : Int32))).bind fun v396 =>
  (aI st a0 (a3 + (4 : Int32))).bind fun v397 =>
  (isO st a1 10).bind fun q399 =>
  (F_X10_fixed n st a1 v394 v395 v396 v397).bind fun p398 =>
  (aI p398.2 a0 (a3 + (1 : Int32))).bind fun v400 =>
  (aI p398.2 a0 (a3 + (2 : Int32))).bind fun v401 =>
  (aI p398.2 a0 (a3 + (3 : Int32))).bind fun v402 =>
  (aI p398.2 a0 (a3 + (4 : Int32))).bind fun v403 =>
  (isO p398.2 a2 11).bind fun q405 =>
  (F_X11_fixed n p398.2 a2 v400 v401 v402 v403).bind fun p404 =>
  if p398.1 = p404.1 then
    (some (a3 + (9 : Int32))).bind fun v406 =>
    F_L_law_L18 n k p404.2 a0 a1 a2 v406
  else
    (rz (0 : Int32)).bind fun v407 =>
    some (v407, p404.2)
def LB30 (n k : Nat) (st : xS) (a0 a1 a2 : Option Nat) (a3 : Int32) : Option (Int32 × xS) :=
  (aI st a0 (a3 + (1 : Int32))).bind fun v408 =>
  (aI st a0 (a3 + (2 : Int32))).bind fun v409 =>
  (aI st a0 (a3 + (3 : Int32))).bind fun v410 =>
  (isO st a1 10).bind fun q412 =>
  (F_X10_travel n st a1 v408 v409 v410).bind fun p411 =>
  (aI p411.2 a0 (a3 + (1 : Int32))).bind fun v413 =>
  (aI p411.2 a0 (a3 + (2 : Int32))).bind fun v414 =>
  (aI p411.2 a0 (a3 + (3 : Int32))).bind fun v415 =>
  (isO p411.2 a2 11).bind fun q417 =>
  (F_X11_travel n p411.2 a2 v413 v414 v415).bind fun v416 =>
  if p411.1 = v416 then
    (some (a3 + (9 : Int32))).bind fun v418 =>
    F_L_law_L18 n k p411.2 a0 a1 a2 v418
  else
    (rz (0 : Int32)).bind fun v419 =>
    some (v419, p411.2)
def LB31 (n k : Nat) (st : xS) (a0 a1 a2 : Option Nat) (a3 : Int32) : Option (Int32 × xS) :=
  (aI st a0 (a3 + (1 : Int32))).bind fun v420 =>
  (aI st a0 (a3 + (2 : Int32))).bind fun v421 =>
  (aI st a0 (a3 + (3 : Int32))).bind fun v422 =>
  ((if v422 = (0 : Int32) then
      some (0 : Int32)
    else
      some (1 : Int32)) : Option (Int32)).bind fun q423 =>
  (isO st a1 10).bind fun q425 =>
  (F_X10_runs n st a1 v420 v421 q423).bind fun v424 =>
  (aI st a0 (a3 + (1 : Int32))).bind fun v426 =>
  (aI st a0 (a3 + (2 : Int32))).bind fun v427 =>
  (aI st a0 (a3 + (3 : Int32))).bind fun v428 =>
  ((if v428 = (0 : Int32) then
      some (0 : Int32)
    else
      some (1 : Int32)) : Option (Int32)).bind fun q429 =>
  (isO st a2 11).bind fun q431 =>
  (F_X11_runs n st a2 v426 v427 q429).bind fun v430 =>
  if v424 = v430 then
    (some (a3 + (9 : Int32))).bind fun v432 =>
    F_L_law_L18 n k st a0 a1 a2 v432
  else
    (rz (0 : Int32)).bind fun v433 =>
    some (v433, st)
def LB32 (n k : Nat) (st : xS) (a0 a1 a2 : Option Nat) (a3 : Int32) : Option (Int32 × xS) :=
  (aI st a0 (a3 + (1 : Int32))).bind fun v434 =>
  (aI st a0 (a3 + (2 : Int32))).bind fun v435 =>
  (aI st a0 (a3 + (3 : Int32))).bind fun v436 =>
  (isO st a1 10).bind fun q438 =>
  (F_X10_early n st a1 v434 v435 v436).bind fun p437 =>
  (aI p437.2 a0 (a3 + (1 : Int32))).bind fun v439 =>
  (aI p437.2 a0 (a3 + (2 : Int32))).bind fun v440 =>
  (aI p437.2 a0 (a3 + (3 : Int32))).bind fun v441 =>
  (isO p437.2 a2 11).bind fun q443 =>
  (F_X11_early n p437.2 a2 v439 v440 v441).bind fun v442 =>
  if p437.1 = v442 then
    (some (a3 + (9 : Int32))).bind fun v444 =>
    F_L_law_L18 n k p437.2 a0 a1 a2 v444
  else
    (rz (0 : Int32)).bind fun v445 =>
    some (v445, p437.2)
def LB33 (n k : Nat) (st : xS) (a0 a1 a2 : Option Nat) (a3 : Int32) : Option (Int32 × xS) :=
  (aI st a0 (a3 + (1 : Int32))).bind fun v446 =>
  (isO st a1 10).bind fun q448 =>
  (F_X10_uneven n st a1 v446).bind fun v447 =>
  (aI st a0 (a3 + (1 : Int32))).bind fun v449 =>
  (isO st a2 11).bind fun q451 =>
  (F_X11_uneven n st a2 v449).bind fun v450 =>
  if v447 = v450 then
    (some (a3 + (9 : Int32))).bind fun v452 =>
    F_L_law_L18 n k st a0 a1 a2 v452
  else
    (rz (0 : Int32)).bind fun v453 =>
    some (v453, st)
def LB34 (n k : Nat) (st : xS) (a0 a1 a2 : Option Nat) (a3 : Int32) : Option (Int32 × xS) :=
  (aI st a0 (a3 + (1 : Int32))).bind fun v454 =>
  (aI st a0 (a3 + (2 : Int32))).bind fun v455 =>
  (isO st a1 10).bind fun q457 =>
  (F_X10_turned n st a1 v454 v455).bind fun p456 =>
  (aI p456.2 a0 (a3 + (1 : Int32))).bind fun v458 =>
  (aI p456.2 a0 (a3 + (2 : Int32))).bind fun v459 =>
  (isO p456.2 a2 11).bind fun q461 =>
  (F_X11_turned n p456.2 a2 v458 v459).bind fun p460 =>
  if p456.1 = p460.1 then
    (some (a3 + (9 : Int32))).bind fun v462 =>
    F_L_law_L18 n k p460.2 a0 a1 a2 v462
  else
    (rz (0 : Int32)).bind fun v463 =>
    some (v463, p460.2)
def LB35 (n k : Nat) (st : xS) (a0 a1 a2 : Option Nat) (a3 : Int32) : Option (Int32 × xS) :=
  (aI st a0 (a3 + (1 : Int32))).bind fun v464 =>
  (aI st a0 (a3 + (2 : Int32))).bind fun v465 =>
  (aI st a0 (a3 + (3 : Int32))).bind fun v466 =>
  (aI st a0 (a3 + (4 : Int32))).bind fun v467 =>
  (isO st a1 10).bind fun q469 =>
  (F_X10_like n st a1 v464 v465 v466 v467).bind fun p468 =>
  (aI p468.2 a0 (a3 + (1 : Int32))).bind fun v470 =>
  (aI p468.2 a0 (a3 + (2 : Int32))).bind fun v471 =>
  (aI p468.2 a0 (a3 + (3 : Int32))).bind fun v472 =>
  (aI p468.2 a0 (a3 + (4 : Int32))).bind fun v473 =>
  (isO p468.2 a2 11).bind fun q475 =>
  (F_X11_like n p468.2 a2 v470 v471 v472 v473).bind fun v474 =>
  if p468.1 = v474 then
    (some (a3 + (9 : Int32))).bind fun v476 =>
    F_L_law_L18 n k p468.2 a0 a1 a2 v476
  else
    (rz (0 : Int32)).bind fun v477 =>
    some (v477, p468.2)
def LB36 (n k : Nat) (st : xS) (a0 a1 a2 : Option Nat) (a3 : Int32) : Option (Int32 × xS) :=
  (aI st a0 (a3 + (1 : Int32))).bind fun v478 =>
  (aI st a0 (a3 + (2 : Int32))).bind fun v479 =>
  (aI st a0 (a3 + (3 : Int32))).bind fun v480 =>
  (aI st a0 (a3 + (4 : Int32))).bind fun v481 =>
  (isO st a1 10).bind fun q483 =>
  (F_X10_single n st a1 v478 v479 v480 v481).bind fun p482 =>
  (aI p482.2 a0 (a3 + (1 : Int32))).bind fun v484 =>
  (aI p482.2 a0 (a3 + (2 : Int32))).bind fun v485 =>
  (aI p482.2 a0 (a3 + (3 : Int32))).bind fun v486 =>
  (aI p482.2 a0 (a3 + (4 : Int32))).bind fun v487 =>
  (isO p482.2 a2 11).bind fun q489 =>
  (F_X11_single n p482.2 a2 v484 v485 v486 v487).bind fun p488 =>
  if p482.1 = p488.1 then
    (some (a3 + (9 : Int32))).bind fun v490 =>
    F_L_law_L18 n k p488.2 a0 a1 a2 v490
  else
    (rz (0 : Int32)).bind fun v491 =>
    some (v491, p488.2)
def LB37 (n k : Nat) (st : xS) (a0 a1 a2 : Option Nat) (a3 : Int32) : Option (Int32 × xS) :=
  (aI st a0 (a3 + (1 : Int32))).bind fun v492 =>
  (aI st a0 (a3 + (2 : Int32))).bind fun v493 =>
  (aI st a0 (a3 + (3 : Int32))).bind fun v494 =>
  (aI st a0 (a3 + (4 : Int32))).bind fun v495 =>
  (aI st a0 (a3 + (5 : Int32))).bind fun v496 =>
  (aI st a0 (a3 + (6 : Int32))).bind fun v497 =>
  ((if v497 = (0 : Int32) then
      some (0 : Int32)
    else
      some (1 : Int32)) : Option (Int32)).bind fun q498 =>
  (isO st a1 10).bind fun q500 =>
  (F_X10_felt n st a1 v492 v493 v494 v495 v496 q498).bind fun p499 =>
  (aI p499.2 a0 (a3 + (1 : Int32))).bind fun v501 =>
  (aI p499.2 a0 (a3 + (2 : Int32))).bind fun v502 =>
  (aI p499.2 a0 (a3 + (3 : Int32))).bind fun v503 =>
  (aI p499.2 a0 (a3 + (4 : Int32))).bind fun v504 =>
  (aI p499.2 a0 (a3 + (5 : Int32))).bind fun v505 =>
  (aI p499.2 a0 (a3 + (6 : Int32))).bind fun v506 =>
  ((if v506 = (0 : Int32) then
      some (0 : Int32)
    else
      some (1 : Int32)) : Option (Int32)).bind fun q507 =>
  (isO p499.2 a2 11).bind fun q509 =>
  (F_X11_felt n p499.2 a2 v501 v502 v503 v504 v505 q507).bind fun p508 =>
  if p499.1 = p508.1 then
    (some (a3 + (9 : Int32))).bind fun v510 =>
    F_L_law_L18 n k p508.2 a0 a1 a2 v510
  else
    (rz (0 : Int32)).bind fun v511 =>
    some (v511, p508.2)
def LB38 (n k : Nat) (st : xS) (a0 a1 a2 : Option Nat) (a3 : Int32) : Option (Int32 × xS) :=
  (aI st a0 (a3 + (1 : Int32))).bind fun v512 =>
  (aI st a0 (a3 + (2 : Int32))).bind fun v513 =>
  (aI st a0 (a3 + (3 : Int32))).bind fun v514 =>
  (aI st a0 (a3 + (4 : Int32))).bind fun v515 =>
  (isO st a1 10).bind fun q517 =>
  (F_X10_rule n st a1 v512 v513 v514 v515).bind fun p516 =>
  (aI p516.2 a0 (a3 + (1 : Int32))).bind fun v518 =>
  (aI p516.2 a0 (a3 + (2 : Int32))).bind fun v519 =>
  (aI p516.2 a0 (a3 + (3 : Int32))).bind fun v520 =>
  (aI p516.2 a0 (a3 + (4 : Int32))).bind fun v521 =>
  (isO p516.2 a2 11).bind fun q523 =>
  (F_X11_rule n p516.2 a2 v518 v519 v520 v521).bind fun v522 =>
  if (lg_cmp p516.1 v522) = (0 : Int32) then
    (some (a3 + (9 : Int32))).bind fun v524 =>
    F_L_law_L18 n k p516.2 a0 a1 a2 v524
  else
    (rz (0 : Int32)).bind fun v525 =>
    some (v525, p516.2)
def LB39 (n k : Nat) (st : xS) (a0 a1 a2 : Option Nat) (a3 : Int32) : Option (Int32 × xS) :=
  (aI st a0 (a3 + (1 : Int32))).bind fun v526 =>
  (aI st a0 (a3 + (2 : Int32))).bind fun v527 =>
  (aI st a0 (a3 + (3 : Int32))).bind fun v528 =>
  (aI st a0 (a3 + (4 : Int32))).bind fun v529 =>
  (isO st a1 10).bind fun q531 =>
  (F_X10_less n st a1 v526 v527 v528 v529).bind fun p530 =>
  (aI p530.2 a0 (a3 + (1 : Int32))).bind fun v532 =>
  (aI p530.2 a0 (a3 + (2 : Int32))).bind fun v533 =>
  (aI p530.2 a0 (a3 + (3 : Int32))).bind fun v534 =>
  (aI p530.2 a0 (a3 + (4 : Int32))).bind fun v535 =>
  (isO p530.2 a2 11).bind fun q537 =>
  (F_X11_less n p530.2 a2 v532 v533 v534 v535).bind fun p536 =>
  if (lg_cmp p530.1 p536.1) = (0 : Int32) then
    (some (a3 + (9 : Int32))).bind fun v538 =>
    F_L_law_L18 n k p536.2 a0 a1 a2 v538
  else
    (rz (0 : Int32)).bind fun v539 =>
    some (v539, p536.2)
def LB40 (n k : Nat) (st : xS) (a0 a1 a2 : Option Nat) (a3 : Int32) : Option (Int32 × xS) :=
  (aI st a0 (a3 + (1 : Int32))).bind fun v540 =>
  (aI st a0 (a3 + (2 : Int32))).bind fun v541 =>
  (aI st a0 (a3 + (3 : Int32))).bind fun v542 =>
  (aI st a0 (a3 + (4 : Int32))).bind fun v543 =>
  (aI st a0 (a3 + (5 : Int32))).bind fun v544 =>
  (isO st a1 10).bind fun q546 =>
  (F_X10_bet n st a1 v540 v541 v542 v543 v544).bind fun p545 =>
  (aI p545.2 a0 (a3 + (1 : Int32))).bind fun v547 =>
  (aI p545.2 a0 (a3 + (2 : Int32))).bind fun v548 =>
  (aI p545.2 a0 (a3 + (3 : Int32))).bind fun v549 =>
  (aI p545.2 a0 (a3 + (4 : Int32))).bind fun v550 =>
  (aI p545.2 a0 (a3 + (5 : Int32))).bind fun v551 =>
  (isO p545.2 a2 11).bind fun q553 =>
  (F_X11_bet n p545.2 a2 v547 v548 v549 v550 v551).bind fun v552 =>
  if (lg_cmp p545.1 v552) = (0 : Int32) then
    (some (a3 + (9 : Int32))).bind fun v554 =>
    F_L_law_L18 n k p545.2 a0 a1 a2 v554
  else
    (rz (0 : Int32)).bind fun v555 =>
    some (v555, p545.2)
def LB41 (n k : Nat) (st : xS) (a0 a1 a2 : Option Nat) (a3 : Int32) : Option (Int32 × xS) :=
  (aI st a0 (a3 + (1 : Int32))).bind fun v556 =>
  (aI st a0 (a3 + (2 : Int32))).bind fun v557 =>
  (aI st a0 (a3 + (3 : Int32))).bind fun v558 =>
  (aI st a0 (a3 + (4 : Int32))).bind fun v559 =>
  (isO st a1 10).bind fun q561 =>
  (F_X10_best n st a1 v556 v557 v558 v559).bind fun p560 =>
  (aI p560.2 a0 (a3 + (1 : Int32))).bind fun v562 =>
  (aI p560.2 a0 (a3 + (2 : Int32))).bind fun v563 =>
  (aI p560.2 a0 (a3 + (3 : Int32))).bind fun v564 =>
  (aI p560.2 a0 (a3 + (4 : Int32))).bind fun v565 =>
  (isO p560.2 a2 11).bind fun q567 =>
  (F_X11_best n p560.2 a2 v562 v563 v564 v565).bind fun v566 =>
  if p560.1 = v566 then
    (some (a3 + (9 : Int32))).bind fun v568 =>
    F_L_law_L18 n k p560.2 a0 a1 a2 v568
  else
    (rz (0 : Int32)).bind fun v569 =>
    some (v569, p560.2)
def LB42 (n k : Nat) (st : xS) (a0 a1 a2 : Option Nat) (a3 : Int32) : Option (Int32 × xS) :=
  (aI st a0 (a3 + (1 : Int32))).bind fun v570 =>
  (aI st a0 (a3 + (2 : Int32))).bind fun v571 =>
  (aI st a0 (a3 + (3 : Int32))).bind fun v572 =>
  (aI st a0 (a3 + (4 : Int32))).bind fun v573 =>
  (isO st a1 10).bind fun q575 =>
  (F_X10_fair n st a1 v570 v571 v572 v573).bind fun p574 =>
  (aI p574.2 a0 (a3 + (1 : Int32))).bind fun v576 =>
  (aI p574.2 a0 (a3 + (2 : Int32))).bind fun v577 =>
  (aI p574.2 a0 (a3 + (3 : Int32))).bind fun v578 =>
  (aI p574.2 a0 (a3 + (4 : Int32))).bind fun v579 =>
  (isO p574.2 a2 11).bind fun q581 =>
  (F_X11_fair n p574.2 a2 v576 v577 v578 v579).bind fun v580 =>
  if p574.1 = v580 then
    (some (a3 + (9 : Int32))).bind fun v582 =>
    F_L_law_L18 n k p574.2 a0 a1 a2 v582
  else
    (rz (0 : Int32)).bind fun v583 =>
    some (v583, p574.2)
def LB43 (n k : Nat) (st : xS) (a0 a1 a2 : Option Nat) (a3 : Int32) : Option (Int32 × xS) :=
  (aI st a0 (a3 + (1 : Int32))).bind fun v584 =>
  (isO st a1 10).bind fun q586 =>
  (F_X10_count n st a1 v584).bind fun v585 =>
  (aI st a0 (a3 + (1 : Int32))).bind fun v587 =>
  (isO st a2 11).bind fun q589 =>
  (F_X11_count n st a2 v587).bind fun v588 =>
  if v585 = v588 then
    (some (a3 + (9 : Int32))).bind fun v590 =>
    F_L_law_L18 n k st a0 a1 a2 v590
  else
    (rz (0 : Int32)).bind fun v591 =>
    some (v591, st)
def LB44 (n k : Nat) (st : xS) (a0 a1 a2 : Option Nat) (a3 : Int32) : Option (Int32 × xS) :=
  (aI st a0 (a3 + (1 : Int32))).bind fun v592 =>
  (isO st a1 10).bind fun q594 =>
  (F_X10_image n st a1 v592).bind fun p593 =>
  (aI p593.2 a0 (a3 + (1 : Int32))).bind fun v595 =>
  (isO p593.2 a2 11).bind fun q597 =>
  (F_X11_image n p593.2 a2 v595).bind fun p596 =>
  if p593.1 = p596.1 then
    (some (a3 + (9 : Int32))).bind fun v598 =>
    F_L_law_L18 n k p596.2 a0 a1 a2 v598
  else
    (rz (0 : Int32)).bind fun v599 =>
    some (v599, p596.2)
def LB45 (n k : Nat) (st : xS) (a0 a1 a2 : Option Nat) (a3 : Int32) : Option (Int32 × xS) :=
  (aI st a0 (a3 + (1 : Int32))).bind fun v600 =>
  (isO st a1 10).bind fun q602 =>
  (F_X10_again n st a1 v600).bind fun p601 =>
  (aI p601.2 a0 (a3 + (1 : Int32))).bind fun v603 =>
  (isO p601.2 a2 11).bind fun q605 =>
  (F_X11_again n p601.2 a2 v603).bind fun p604 =>
  if p601.1 = p604.1 then
    (some (a3 + (9 : Int32))).bind fun v606 =>
    F_L_law_L18 n k p604.2 a0 a1 a2 v606
  else
    (rz (0 : Int32)).bind fun v607 =>
    some (v607, p604.2)
def LB46 (n k : Nat) (st : xS) (a0 a1 a2 : Option Nat) (a3 : Int32) : Option (Int32 × xS) :=
  (some (a3 + (9 : Int32))).bind fun v608 =>
  F_L_law_L18 n k st a0 a1 a2 v608
theorem L18_eq (n k : Nat) (st : xS) (a0 a1 a2 : Option Nat) (a3 : Int32) : F_L_law_L18 n (k + 1) st a0 a1 a2 a3 = ((aN st a0).bind fun v9 => if (v9 - (9 : Int32)) < a3 then (rz (1 : Int32)).bind fun v10 => some (v10, st) else (aI st a0 a3).bind fun v11 =>
    if (v11 &&& (63 : Int32)) = (0 : Int32) then LB0 n k st a0 a1 a2 a3
    else if (v11 &&& (63 : Int32)) = (1 : Int32) then LB1 n k st a0 a1 a2 a3
    else if (v11 &&& (63 : Int32)) = (2 : Int32) then LB2 n k st a0 a1 a2 a3
    else if (v11 &&& (63 : Int32)) = (3 : Int32) then LB3 n k st a0 a1 a2 a3
    else if (v11 &&& (63 : Int32)) = (4 : Int32) then LB4 n k st a0 a1 a2 a3
    else if (v11 &&& (63 : Int32)) = (5 : Int32) then LB5 n k st a0 a1 a2 a3
    else if (v11 &&& (63 : Int32)) = (6 : Int32) then LB6 n k st a0 a1 a2 a3
    else if (v11 &&& (63 : Int32)) = (7 : Int32) then LB7 n k st a0 a1 a2 a3
    else if (v11 &&& (63 : Int32)) = (8 : Int32) then LB8 n k st a0 a1 a2 a3
    else if (v11 &&& (63 : Int32)) = (9 : Int32) then LB9 n k st a0 a1 a2 a3
    else if (v11 &&& (63 : Int32)) = (10 : Int32) then LB10 n k st a0 a1 a2 a3
    else if (v11 &&& (63 : Int32)) = (11 : Int32) then LB11 n k st a0 a1 a2 a3
    else if (v11 &&& (63 : Int32)) = (12 : Int32) then LB12 n k st a0 a1 a2 a3
    else if (v11 &&& (63 : Int32)) = (13 : Int32) then LB13 n k st a0 a1 a2 a3
    else if (v11 &&& (63 : Int32)) = (14 : Int32) then LB14 n k st a0 a1 a2 a3
    else if (v11 &&& (63 : Int32)) = (15 : Int32) then LB15 n k st a0 a1 a2 a3
    else if (v11 &&& (63 : Int32)) = (16 : Int32) then LB16 n k st a0 a1 a2 a3
    else if (v11 &&& (63 : Int32)) = (17 : Int32) then LB17 n k st a0 a1 a2 a3
    else if (v11 &&& (63 : Int32)) = (18 : Int32) then LB18 n k st a0 a1 a2 a3
    else if (v11 &&& (63 : Int32)) = (19 : Int32) then LB19 n k st a0 a1 a2 a3
    else if (v11 &&& (63 : Int32)) = (20 : Int32) then LB20 n k st a0 a1 a2 a3
    else if (v11 &&& (63 : Int32)) = (21 : Int32) then LB21 n k st a0 a1 a2 a3
    else if (v11 &&& (63 : Int32)) = (22 : Int32) then LB22 n k st a0 a1 a2 a3
    else if (v11 &&& (63 : Int32)) = (23 : Int32) then LB23 n k st a0 a1 a2 a3
    else if (v11 &&& (63 : Int32)) = (24 : Int32) then LB24 n k st a0 a1 a2 a3
    else if (v11 &&& (63 : Int32)) = (25 : Int32) then LB25 n k st a0 a1 a2 a3
    else if (v11 &&& (63 : Int32)) = (26 : Int32) then LB26 n k st a0 a1 a2 a3
    else if (v11 &&& (63 : Int32)) = (27 : Int32) then LB27 n k st a0 a1 a2 a3
    else if (v11 &&& (63 : Int32)) = (28 : Int32) then LB28 n k st a0 a1 a2 a3
    else if (v11 &&& (63 : Int32)) = (29 : Int32) then LB29 n k st a0 a1 a2 a3
    else if (v11 &&& (63 : Int32)) = (30 : Int32) then LB30 n k st a0 a1 a2 a3
    else if (v11 &&& (63 : Int32)) = (31 : Int32) then LB31 n k st a0 a1 a2 a3
    else if (v11 &&& (63 : Int32)) = (32 : Int32) then LB32 n k st a0 a1 a2 a3
    else if (v11 &&& (63 : Int32)) = (33 : Int32) then LB33 n k st a0 a1 a2 a3
    else if (v11 &&& (63 : Int32)) = (34 : Int32) then LB34 n k st a0 a1 a2 a3
    else if (v11 &&& (63 : Int32)) = (35 : Int32) then LB35 n k st a0 a1 a2 a3
    else if (v11 &&& (63 : Int32)) = (36 : Int32) then LB36 n k st a0 a1 a2 a3
    else if (v11 &&& (63 : Int32)) = (37 : Int32) then LB37 n k st a0 a1 a2 a3
    else if (v11 &&& (63 : Int32)) = (38 : Int32) then LB38 n k st a0 a1 a2 a3
    else if (v11 &&& (63 : Int32)) = (39 : Int32) then LB39 n k st a0 a1 a2 a3
    else if (v11 &&& (63 : Int32)) = (40 : Int32) then LB40 n k st a0 a1 a2 a3
    else if (v11 &&& (63 : Int32)) = (41 : Int32) then LB41 n k st a0 a1 a2 a3
    else if (v11 &&& (63 : Int32)) = (42 : Int32) then LB42 n k st a0 a1 a2 a3
    else if (v11 &&& (63 : Int32)) = (43 : Int32) then LB43 n k st a0 a1 a2 a3
    else if (v11 &&& (63 : Int32)) = (44 : Int32) then LB44 n k st a0 a1 a2 a3
    else if (v11 &&& (63 : Int32)) = (45 : Int32) then LB45 n k st a0 a1 a2 a3
    else LB46 n k st a0 a1 a2 a3) := rfl
theorem lgc (v : Int64) : lg_cmp v v = 0 := by
  unfold lg_cmp
  simp
theorem bqL (v : Int32) : ∃ x : Nat, x ≤ 1 ∧ ((if v = (0 : Int32) then some (0 : Int32) else some (1 : Int32)) : Option Int32) = some (nI x) := by
  by_cases c : v = 0
  · exact ⟨0, by decide, by rw [if_pos c]; rfl⟩
  · exact ⟨1, by decide, by rw [if_neg c]; rfl⟩
section LW
variable {n m L i : Nat} {xs : Nat → Int32} {st : xS}
theorem at40 (h : st.2.2 40 = .inl (9, L, .inl xs)) (hL : L ≤ 4608) (h9 : 9 * i + 9 ≤ L) {j : Nat} (hj : j < 9) : aI st (some 40) (nI (9 * i) + nI j) = some (xs (9 * i + j)) := by
  rw [nAdd]
  unfold aI
  simp only [Option.bind_some, h, and_self, or_true, true_and]
  rw [if_pos (ixT (by omega) (by omega)), nIc (by omega)]
theorem aN40 (h : st.2.2 40 = .inl (9, L, .inl xs)) : aN st (some 40) = some (nI L) := by
  unfold aN
  simp only [Option.bind_some, h, and_self, or_true, if_true]
theorem lb_0 (J : LwJ L xs st i) (h9 : 9 * i + 9 ≤ L) (hL : L ≤ 4608) (hn : 3000 ≤ n) : ∃ st', LB0 n m st (some 40) (some 64) (some 106) (nI (9 * i)) = F_L_law_L18 n m st' (some 40) (some 64) (some 106) (nI (9 * (i + 1))) ∧ LwJ L xs st' (i + 1) := by
  obtain ⟨⟨G, I, R⟩, h40, c1, c2⟩ := J
  have S := R.sh
  have nx : nI (9 * i) + (9 : Int32) = nI (9 * (i + 1)) := nAdd (9 * i) 9
  have r1 : aI st (some 40) (nI (9 * i) + (1 : Int32)) = some (xs (9 * i + 1)) := at40 h40 hL h9 (j := 1) (by decide)
  have r2 : aI st (some 40) (nI (9 * i) + (2 : Int32)) = some (xs (9 * i + 2)) := at40 h40 hL h9 (j := 2) (by decide)
  have r3 : aI st (some 40) (nI (9 * i) + (3 : Int32)) = some (xs (9 * i + 3)) := at40 h40 hL h9 (j := 3) (by decide)
  have r4 : aI st (some 40) (nI (9 * i) + (4 : Int32)) = some (xs (9 * i + 4)) := at40 h40 hL h9 (j := 4) (by decide)
  have r5 : aI st (some 40) (nI (9 * i) + (5 : Int32)) = some (xs (9 * i + 5)) := at40 h40 hL h9 (j := 5) (by decide)
  obtain ⟨v, s1, G1, I1, e1, K, kf, n1, n2, n3, f⟩ := E_feed (n := n) R (xs (9 * i + 1)) (xs (9 * i + 2)) (xs (9 * i + 3)) (xs (9 * i + 4)) (xs (9 * i + 5)) hn
  have S1 := K.1
  have h41 := (kf 40 (Or.inl (by decide)) (by decide)).trans h40
  have t1 : aI s1 (some 40) (nI (9 * i) + (1 : Int32)) = some (xs (9 * i + 1)) := at40 h41 hL h9 (j := 1) (by decide)
  have t2 : aI s1 (some 40) (nI (9 * i) + (2 : Int32)) = some (xs (9 * i + 2)) := at40 h41 hL h9 (j := 2) (by decide)
  have t3 : aI s1 (some 40) (nI (9 * i) + (3 : Int32)) = some (xs (9 * i + 3)) := at40 h41 hL h9 (j := 3) (by decide)
  have t4 : aI s1 (some 40) (nI (9 * i) + (4 : Int32)) = some (xs (9 * i + 4)) := at40 h41 hL h9 (j := 4) (by decide)
  have t5 : aI s1 (some 40) (nI (9 * i) + (5 : Int32)) = some (xs (9 * i + 5)) := at40 h41 hL h9 (j := 5) (by decide)
  obtain ⟨s3, e2, N3, o3⟩ := f s1 (R.mdl.kf kf S1)
  dsimp only at e1 e2
  refine ⟨s3, ?_, ⟨G1, I1, (K.nf o3).and N3⟩, (o3.2.2.2 40 (by unfold QN; omega)).trans h41, by have := o3.1; omega, by have := o3.2.1; omega⟩
  unfold LB0
  simp only [↓bnd (r1), ↓bnd (r2), ↓bnd (r3), ↓bnd (r4), ↓bnd (r5), ↓bnd (o64 S), ↓bnd (e1), ↓bnd (t1), ↓bnd (t2), ↓bnd (t3), ↓bnd (t4), ↓bnd (t5), ↓bnd (o106 S1), ↓bnd (e2), lgc, eq_self, if_true, Option.bind_some, nx]
theorem lb_1 (J : LwJ L xs st i) (h9 : 9 * i + 9 ≤ L) (hL : L ≤ 4608) (hn : 3000 ≤ n) : ∃ st', LB1 n m st (some 40) (some 64) (some 106) (nI (9 * i)) = F_L_law_L18 n m st' (some 40) (some 64) (some 106) (nI (9 * (i + 1))) ∧ LwJ L xs st' (i + 1) := by
  obtain ⟨⟨G, I, R⟩, h40, c1, c2⟩ := J
  have S := R.sh
  have nx : nI (9 * i) + (9 : Int32) = nI (9 * (i + 1)) := nAdd (9 * i) 9
  have r1 : aI st (some 40) (nI (9 * i) + (1 : Int32)) = some (xs (9 * i + 1)) := at40 h40 hL h9 (j := 1) (by decide)
  obtain ⟨v, s1, G1, I1, e1, K, kf, n1, n2, n3, f⟩ := E_end (n := n) R (xs (9 * i + 1))
  have S1 := K.1
  have h41 := (kf 40 (Or.inl (by decide)) (by decide)).trans h40
  have t1 : aI s1 (some 40) (nI (9 * i) + (1 : Int32)) = some (xs (9 * i + 1)) := at40 h41 hL h9 (j := 1) (by decide)
  obtain ⟨s3, e2, N3, o3⟩ := f s1 (R.mdl.kf kf S1)
  dsimp only at e1 e2
  refine ⟨s3, ?_, ⟨G1, I1, (K.nf o3).and N3⟩, (o3.2.2.2 40 (by unfold QN; omega)).trans h41, by have := o3.1; omega, by have := o3.2.1; omega⟩
  unfold LB1
  simp only [↓bnd (r1), ↓bnd (o64 S), ↓bnd (e1), ↓bnd (t1), ↓bnd (o106 S1), ↓bnd (e2), lgc, eq_self, if_true, Option.bind_some, nx]
theorem lb_2 (J : LwJ L xs st i) (h9 : 9 * i + 9 ≤ L) (hL : L ≤ 4608) (hn : 3000 ≤ n) : ∃ st', LB2 n m st (some 40) (some 64) (some 106) (nI (9 * i)) = F_L_law_L18 n m st' (some 40) (some 64) (some 106) (nI (9 * (i + 1))) ∧ LwJ L xs st' (i + 1) := by
  obtain ⟨⟨G, I, R⟩, h40, c1, c2⟩ := J
  have S := R.sh
  have nx : nI (9 * i) + (9 : Int32) = nI (9 * (i + 1)) := nAdd (9 * i) 9
  have r1 : aI st (some 40) (nI (9 * i) + (1 : Int32)) = some (xs (9 * i + 1)) := at40 h40 hL h9 (j := 1) (by decide)
  have r2 : aI st (some 40) (nI (9 * i) + (2 : Int32)) = some (xs (9 * i + 2)) := at40 h40 hL h9 (j := 2) (by decide)
  obtain ⟨v, s1, G1, I1, e1, K, kf, n1, n2, n3, f⟩ := E_text (n := n) R (xs (9 * i + 1)) (xs (9 * i + 2)) hn
  have S1 := K.1
  have h41 := (kf 40 (Or.inl (by decide)) (by decide)).trans h40
  have t1 : aI s1 (some 40) (nI (9 * i) + (1 : Int32)) = some (xs (9 * i + 1)) := at40 h41 hL h9 (j := 1) (by decide)
  have t2 : aI s1 (some 40) (nI (9 * i) + (2 : Int32)) = some (xs (9 * i + 2)) := at40 h41 hL h9 (j := 2) (by decide)
  obtain ⟨s3, e2, N3, o3⟩ := f s1 (R.mdl.kf kf S1)
  dsimp only at e1 e2
  refine ⟨s3, ?_, ⟨G1, I1, (K.nf o3).and N3⟩, (o3.2.2.2 40 (by unfold QN; omega)).trans h41, by have := o3.1; omega, by have := o3.2.1; omega⟩
  unfold LB2
  simp only [↓bnd (r1), ↓bnd (r2), ↓bnd (o64 S), ↓bnd (e1), ↓bnd (t1), ↓bnd (t2), ↓bnd (o106 S1), ↓bnd (e2), lgc, eq_self, if_true, Option.bind_some, nx]
theorem lb_3 (J : LwJ L xs st i) (h9 : 9 * i + 9 ≤ L) (hL : L ≤ 4608) (hn : 3000 ≤ n) : ∃ st', LB3 n m st (some 40) (some 64) (some 106) (nI (9 * i)) = F_L_law_L18 n m st' (some 40) (some 64) (some 106) (nI (9 * (i + 1))) ∧ LwJ L xs st' (i + 1) := by
  obtain ⟨⟨G, I, R⟩, h40, c1, c2⟩ := J
  have S := R.sh
  have nx : nI (9 * i) + (9 : Int32) = nI (9 * (i + 1)) := nAdd (9 * i) 9
  have r1 : aI st (some 40) (nI (9 * i) + (1 : Int32)) = some (xs (9 * i + 1)) := at40 h40 hL h9 (j := 1) (by decide)
  obtain ⟨v, e1, e2⟩ := E_fault (n := n) R (xs (9 * i + 1))
  refine ⟨st, ?_, ⟨G, I, R⟩, h40, by omega, by omega⟩
  unfold LB3
  simp only [↓bnd (r1), ↓bnd (o64 S), ↓bnd (e1), ↓bnd (o106 S), ↓bnd (e2), lgc, eq_self, if_true, Option.bind_some, nx]
theorem lb_4 (J : LwJ L xs st i) (h9 : 9 * i + 9 ≤ L) (hL : L ≤ 4608) (hn : 3000 ≤ n) : ∃ st', LB4 n m st (some 40) (some 64) (some 106) (nI (9 * i)) = F_L_law_L18 n m st' (some 40) (some 64) (some 106) (nI (9 * (i + 1))) ∧ LwJ L xs st' (i + 1) := by
  obtain ⟨⟨G, I, R⟩, h40, c1, c2⟩ := J
  have S := R.sh
  have nx : nI (9 * i) + (9 : Int32) = nI (9 * (i + 1)) := nAdd (9 * i) 9
  have r1 : aI st (some 40) (nI (9 * i) + (1 : Int32)) = some (xs (9 * i + 1)) := at40 h40 hL h9 (j := 1) (by decide)
  have r2 : aI st (some 40) (nI (9 * i) + (2 : Int32)) = some (xs (9 * i + 2)) := at40 h40 hL h9 (j := 2) (by decide)
  obtain ⟨v, e1, e2⟩ := E_league (n := n) R (xs (9 * i + 1)) (xs (9 * i + 2))
  refine ⟨st, ?_, ⟨G, I, R⟩, h40, by omega, by omega⟩
  unfold LB4
  simp only [↓bnd (r1), ↓bnd (r2), ↓bnd (o64 S), ↓bnd (e1), ↓bnd (o106 S), ↓bnd (e2), lgc, eq_self, if_true, Option.bind_some, nx]
theorem lb_5 (J : LwJ L xs st i) (h9 : 9 * i + 9 ≤ L) (hL : L ≤ 4608) (hn : 3000 ≤ n) : ∃ st', LB5 n m st (some 40) (some 64) (some 106) (nI (9 * i)) = F_L_law_L18 n m st' (some 40) (some 64) (some 106) (nI (9 * (i + 1))) ∧ LwJ L xs st' (i + 1) := by
  obtain ⟨⟨G, I, R⟩, h40, c1, c2⟩ := J
  have S := R.sh
  have nx : nI (9 * i) + (9 : Int32) = nI (9 * (i + 1)) := nAdd (9 * i) 9
  have r1 : aI st (some 40) (nI (9 * i) + (1 : Int32)) = some (xs (9 * i + 1)) := at40 h40 hL h9 (j := 1) (by decide)
  have r2 : aI st (some 40) (nI (9 * i) + (2 : Int32)) = some (xs (9 * i + 2)) := at40 h40 hL h9 (j := 2) (by decide)
  have r3 : aI st (some 40) (nI (9 * i) + (3 : Int32)) = some (xs (9 * i + 3)) := at40 h40 hL h9 (j := 3) (by decide)
  obtain ⟨v, e1, e2⟩ := E_miles (n := n) R (xs (9 * i + 1)) (xs (9 * i + 2)) (xs (9 * i + 3))
  refine ⟨st, ?_, ⟨G, I, R⟩, h40, by omega, by omega⟩
  unfold LB5
  simp only [↓bnd (r1), ↓bnd (r2), ↓bnd (r3), ↓bnd (o64 S), ↓bnd (e1), ↓bnd (o106 S), ↓bnd (e2), lgc, eq_self, if_true, Option.bind_some, nx]
theorem lb_6 (J : LwJ L xs st i) (h9 : 9 * i + 9 ≤ L) (hL : L ≤ 4608) (hn : 3000 ≤ n) : ∃ st', LB6 n m st (some 40) (some 64) (some 106) (nI (9 * i)) = F_L_law_L18 n m st' (some 40) (some 64) (some 106) (nI (9 * (i + 1))) ∧ LwJ L xs st' (i + 1) := by
  obtain ⟨⟨G, I, R⟩, h40, c1, c2⟩ := J
  have S := R.sh
  have nx : nI (9 * i) + (9 : Int32) = nI (9 * (i + 1)) := nAdd (9 * i) 9
  have r1 : aI st (some 40) (nI (9 * i) + (1 : Int32)) = some (xs (9 * i + 1)) := at40 h40 hL h9 (j := 1) (by decide)
  have r2 : aI st (some 40) (nI (9 * i) + (2 : Int32)) = some (xs (9 * i + 2)) := at40 h40 hL h9 (j := 2) (by decide)
  obtain ⟨v, e1, e2⟩ := E_law (n := n) R (xs (9 * i + 1)) (xs (9 * i + 2))
  refine ⟨st, ?_, ⟨G, I, R⟩, h40, by omega, by omega⟩
  unfold LB6
  simp only [↓bnd (r1), ↓bnd (r2), ↓bnd (o64 S), ↓bnd (e1), ↓bnd (o106 S), ↓bnd (e2), lgc, eq_self, if_true, Option.bind_some, nx]
theorem lb_7 (J : LwJ L xs st i) (h9 : 9 * i + 9 ≤ L) (hL : L ≤ 4608) (hn : 3000 ≤ n) : ∃ st', LB7 n m st (some 40) (some 64) (some 106) (nI (9 * i)) = F_L_law_L18 n m st' (some 40) (some 64) (some 106) (nI (9 * (i + 1))) ∧ LwJ L xs st' (i + 1) := by
  obtain ⟨⟨G, I, R⟩, h40, c1, c2⟩ := J
  have S := R.sh
  have nx : nI (9 * i) + (9 : Int32) = nI (9 * (i + 1)) := nAdd (9 * i) 9
  have r1 : aI st (some 40) (nI (9 * i) + (1 : Int32)) = some (xs (9 * i + 1)) := at40 h40 hL h9 (j := 1) (by decide)
  have r2 : aI st (some 40) (nI (9 * i) + (2 : Int32)) = some (xs (9 * i + 2)) := at40 h40 hL h9 (j := 2) (by decide)
  have r3 : aI st (some 40) (nI (9 * i) + (3 : Int32)) = some (xs (9 * i + 3)) := at40 h40 hL h9 (j := 3) (by decide)
  obtain ⟨v, e1, e2⟩ := E_plan (n := n) R (xs (9 * i + 1)) (xs (9 * i + 2)) (xs (9 * i + 3))
  refine ⟨st, ?_, ⟨G, I, R⟩, h40, by omega, by omega⟩
  unfold LB7
  simp only [↓bnd (r1), ↓bnd (r2), ↓bnd (r3), ↓bnd (o64 S), ↓bnd (e1), ↓bnd (o106 S), ↓bnd (e2), lgc, eq_self, if_true, Option.bind_some, nx]
theorem lb_8 (J : LwJ L xs st i) (h9 : 9 * i + 9 ≤ L) (hL : L ≤ 4608) (hn : 3000 ≤ n) : ∃ st', LB8 n m st (some 40) (some 64) (some 106) (nI (9 * i)) = F_L_law_L18 n m st' (some 40) (some 64) (some 106) (nI (9 * (i + 1))) ∧ LwJ L xs st' (i + 1) := by
  obtain ⟨⟨G, I, R⟩, h40, c1, c2⟩ := J
  have S := R.sh
  have nx : nI (9 * i) + (9 : Int32) = nI (9 * (i + 1)) := nAdd (9 * i) 9
  have r1 : aI st (some 40) (nI (9 * i) + (1 : Int32)) = some (xs (9 * i + 1)) := at40 h40 hL h9 (j := 1) (by decide)
  have r2 : aI st (some 40) (nI (9 * i) + (2 : Int32)) = some (xs (9 * i + 2)) := at40 h40 hL h9 (j := 2) (by decide)
  obtain ⟨v, s1, e1, o, f⟩ := E_goes (n := n) R (xs (9 * i + 1)) (xs (9 * i + 2)) hn
  have R1 := R.qc o
  have h41 := (o.2.2.2 40 (by unfold QC; omega)).trans h40
  have t1 : aI s1 (some 40) (nI (9 * i) + (1 : Int32)) = some (xs (9 * i + 1)) := at40 h41 hL h9 (j := 1) (by decide)
  have t2 : aI s1 (some 40) (nI (9 * i) + (2 : Int32)) = some (xs (9 * i + 2)) := at40 h41 hL h9 (j := 2) (by decide)
  have e2 := f s1 R1
  refine ⟨s1, ?_, ⟨G, I, R1⟩, h41, by have := o.1; omega, by have := o.2.1; omega⟩
  unfold LB8
  simp only [↓bnd (r1), ↓bnd (r2), ↓bnd (o64 S), ↓bnd (e1), ↓bnd (t1), ↓bnd (t2), ↓bnd (o106 R1.sh), ↓bnd (e2), lgc, eq_self, if_true, Option.bind_some, nx]
theorem lb_9 (J : LwJ L xs st i) (h9 : 9 * i + 9 ≤ L) (hL : L ≤ 4608) (hn : 3000 ≤ n) : ∃ st', LB9 n m st (some 40) (some 64) (some 106) (nI (9 * i)) = F_L_law_L18 n m st' (some 40) (some 64) (some 106) (nI (9 * (i + 1))) ∧ LwJ L xs st' (i + 1) := by
  obtain ⟨⟨G, I, R⟩, h40, c1, c2⟩ := J
  have S := R.sh
  have nx : nI (9 * i) + (9 : Int32) = nI (9 * (i + 1)) := nAdd (9 * i) 9
  have r1 : aI st (some 40) (nI (9 * i) + (1 : Int32)) = some (xs (9 * i + 1)) := at40 h40 hL h9 (j := 1) (by decide)
  have r2 : aI st (some 40) (nI (9 * i) + (2 : Int32)) = some (xs (9 * i + 2)) := at40 h40 hL h9 (j := 2) (by decide)
  have r3 : aI st (some 40) (nI (9 * i) + (3 : Int32)) = some (xs (9 * i + 3)) := at40 h40 hL h9 (j := 3) (by decide)
  have r4 : aI st (some 40) (nI (9 * i) + (4 : Int32)) = some (xs (9 * i + 4)) := at40 h40 hL h9 (j := 4) (by decide)
  have r5 : aI st (some 40) (nI (9 * i) + (5 : Int32)) = some (xs (9 * i + 5)) := at40 h40 hL h9 (j := 5) (by decide)
  obtain ⟨v, s1, e1, o, f⟩ := E_worth (n := n) R (xs (9 * i + 1)) (xs (9 * i + 2)) (xs (9 * i + 3)) (xs (9 * i + 4)) (xs (9 * i + 5)) hn
  have R1 := R.qc o
  have h41 := (o.2.2.2 40 (by unfold QC; omega)).trans h40
  have t1 : aI s1 (some 40) (nI (9 * i) + (1 : Int32)) = some (xs (9 * i + 1)) := at40 h41 hL h9 (j := 1) (by decide)
  have t2 : aI s1 (some 40) (nI (9 * i) + (2 : Int32)) = some (xs (9 * i + 2)) := at40 h41 hL h9 (j := 2) (by decide)
  have t3 : aI s1 (some 40) (nI (9 * i) + (3 : Int32)) = some (xs (9 * i + 3)) := at40 h41 hL h9 (j := 3) (by decide)
  have t4 : aI s1 (some 40) (nI (9 * i) + (4 : Int32)) = some (xs (9 * i + 4)) := at40 h41 hL h9 (j := 4) (by decide)
  have t5 : aI s1 (some 40) (nI (9 * i) + (5 : Int32)) = some (xs (9 * i + 5)) := at40 h41 hL h9 (j := 5) (by decide)
  have e2 := f s1 R1
  refine ⟨s1, ?_, ⟨G, I, R1⟩, h41, by have := o.1; omega, by have := o.2.1; omega⟩
  unfold LB9
  simp only [↓bnd (r1), ↓bnd (r2), ↓bnd (r3), ↓bnd (r4), ↓bnd (r5), ↓bnd (o64 S), ↓bnd (e1), ↓bnd (t1), ↓bnd (t2), ↓bnd (t3), ↓bnd (t4), ↓bnd (t5), ↓bnd (o106 R1.sh), ↓bnd (e2), lgc, eq_self, if_true, Option.bind_some, nx]
theorem lb_10 (J : LwJ L xs st i) (h9 : 9 * i + 9 ≤ L) (hL : L ≤ 4608) (hn : 3000 ≤ n) : ∃ st', LB10 n m st (some 40) (some 64) (some 106) (nI (9 * i)) = F_L_law_L18 n m st' (some 40) (some 64) (some 106) (nI (9 * (i + 1))) ∧ LwJ L xs st' (i + 1) := by
  obtain ⟨⟨G, I, R⟩, h40, c1, c2⟩ := J
  have S := R.sh
  have nx : nI (9 * i) + (9 : Int32) = nI (9 * (i + 1)) := nAdd (9 * i) 9
  have r1 : aI st (some 40) (nI (9 * i) + (1 : Int32)) = some (xs (9 * i + 1)) := at40 h40 hL h9 (j := 1) (by decide)
  have r2 : aI st (some 40) (nI (9 * i) + (2 : Int32)) = some (xs (9 * i + 2)) := at40 h40 hL h9 (j := 2) (by decide)
  have r3 : aI st (some 40) (nI (9 * i) + (3 : Int32)) = some (xs (9 * i + 3)) := at40 h40 hL h9 (j := 3) (by decide)
  have r4 : aI st (some 40) (nI (9 * i) + (4 : Int32)) = some (xs (9 * i + 4)) := at40 h40 hL h9 (j := 4) (by decide)
  have r5 : aI st (some 40) (nI (9 * i) + (5 : Int32)) = some (xs (9 * i + 5)) := at40 h40 hL h9 (j := 5) (by decide)
  obtain ⟨v, s1, e1, o, f⟩ := E_chance (n := n) R (xs (9 * i + 1)) (xs (9 * i + 2)) (xs (9 * i + 3)) (xs (9 * i + 4)) (xs (9 * i + 5)) hn
  have R1 := R.qc o
  have h41 := (o.2.2.2 40 (by unfold QC; omega)).trans h40
  have t1 : aI s1 (some 40) (nI (9 * i) + (1 : Int32)) = some (xs (9 * i + 1)) := at40 h41 hL h9 (j := 1) (by decide)
  have t2 : aI s1 (some 40) (nI (9 * i) + (2 : Int32)) = some (xs (9 * i + 2)) := at40 h41 hL h9 (j := 2) (by decide)
  have t3 : aI s1 (some 40) (nI (9 * i) + (3 : Int32)) = some (xs (9 * i + 3)) := at40 h41 hL h9 (j := 3) (by decide)
  have t4 : aI s1 (some 40) (nI (9 * i) + (4 : Int32)) = some (xs (9 * i + 4)) := at40 h41 hL h9 (j := 4) (by decide)
  have t5 : aI s1 (some 40) (nI (9 * i) + (5 : Int32)) = some (xs (9 * i + 5)) := at40 h41 hL h9 (j := 5) (by decide)
  have e2 := f s1 R1
  refine ⟨s1, ?_, ⟨G, I, R1⟩, h41, by have := o.1; omega, by have := o.2.1; omega⟩
  unfold LB10
  simp only [↓bnd (r1), ↓bnd (r2), ↓bnd (r3), ↓bnd (r4), ↓bnd (r5), ↓bnd (o64 S), ↓bnd (e1), ↓bnd (t1), ↓bnd (t2), ↓bnd (t3), ↓bnd (t4), ↓bnd (t5), ↓bnd (o106 R1.sh), ↓bnd (e2), lgc, eq_self, if_true, Option.bind_some, nx]
theorem lb_11 (J : LwJ L xs st i) (h9 : 9 * i + 9 ≤ L) (hL : L ≤ 4608) (hn : 3000 ≤ n) : ∃ st', LB11 n m st (some 40) (some 64) (some 106) (nI (9 * i)) = F_L_law_L18 n m st' (some 40) (some 64) (some 106) (nI (9 * (i + 1))) ∧ LwJ L xs st' (i + 1) := by
  obtain ⟨⟨G, I, R⟩, h40, c1, c2⟩ := J
  have S := R.sh
  have nx : nI (9 * i) + (9 : Int32) = nI (9 * (i + 1)) := nAdd (9 * i) 9
  have r1 : aI st (some 40) (nI (9 * i) + (1 : Int32)) = some (xs (9 * i + 1)) := at40 h40 hL h9 (j := 1) (by decide)
  have r2 : aI st (some 40) (nI (9 * i) + (2 : Int32)) = some (xs (9 * i + 2)) := at40 h40 hL h9 (j := 2) (by decide)
  have r3 : aI st (some 40) (nI (9 * i) + (3 : Int32)) = some (xs (9 * i + 3)) := at40 h40 hL h9 (j := 3) (by decide)
  have r4 : aI st (some 40) (nI (9 * i) + (4 : Int32)) = some (xs (9 * i + 4)) := at40 h40 hL h9 (j := 4) (by decide)
  have r5 : aI st (some 40) (nI (9 * i) + (5 : Int32)) = some (xs (9 * i + 5)) := at40 h40 hL h9 (j := 5) (by decide)
  obtain ⟨v, s1, G1, I1, e1, K, kf, n1, n2, n3, f⟩ := E_play (n := n) R (xs (9 * i + 1)) (xs (9 * i + 2)) (xs (9 * i + 3)) (xs (9 * i + 4)) (xs (9 * i + 5)) hn
  have S1 := K.1
  have h41 := (kf 40 (Or.inl (by decide)) (by decide)).trans h40
  have t1 : aI s1 (some 40) (nI (9 * i) + (1 : Int32)) = some (xs (9 * i + 1)) := at40 h41 hL h9 (j := 1) (by decide)
  have t2 : aI s1 (some 40) (nI (9 * i) + (2 : Int32)) = some (xs (9 * i + 2)) := at40 h41 hL h9 (j := 2) (by decide)
  have t3 : aI s1 (some 40) (nI (9 * i) + (3 : Int32)) = some (xs (9 * i + 3)) := at40 h41 hL h9 (j := 3) (by decide)
  have t4 : aI s1 (some 40) (nI (9 * i) + (4 : Int32)) = some (xs (9 * i + 4)) := at40 h41 hL h9 (j := 4) (by decide)
  have t5 : aI s1 (some 40) (nI (9 * i) + (5 : Int32)) = some (xs (9 * i + 5)) := at40 h41 hL h9 (j := 5) (by decide)
  obtain ⟨s3, e2, N3, o3⟩ := f s1 (R.mdl.kf kf S1)
  dsimp only at e1 e2
  refine ⟨s3, ?_, ⟨G1, I1, (K.nf o3).and N3⟩, (o3.2.2.2 40 (by unfold QN; omega)).trans h41, by have := o3.1; omega, by have := o3.2.1; omega⟩
  unfold LB11
  simp only [↓bnd (r1), ↓bnd (r2), ↓bnd (r3), ↓bnd (r4), ↓bnd (r5), ↓bnd (o64 S), ↓bnd (e1), ↓bnd (t1), ↓bnd (t2), ↓bnd (t3), ↓bnd (t4), ↓bnd (t5), ↓bnd (o106 S1), ↓bnd (e2), lgc, eq_self, if_true, Option.bind_some, nx]
theorem lb_12 (J : LwJ L xs st i) (h9 : 9 * i + 9 ≤ L) (hL : L ≤ 4608) (hn : 3000 ≤ n) : ∃ st', LB12 n m st (some 40) (some 64) (some 106) (nI (9 * i)) = F_L_law_L18 n m st' (some 40) (some 64) (some 106) (nI (9 * (i + 1))) ∧ LwJ L xs st' (i + 1) := by
  obtain ⟨⟨G, I, R⟩, h40, c1, c2⟩ := J
  have S := R.sh
  have nx : nI (9 * i) + (9 : Int32) = nI (9 * (i + 1)) := nAdd (9 * i) 9
  have r1 : aI st (some 40) (nI (9 * i) + (1 : Int32)) = some (xs (9 * i + 1)) := at40 h40 hL h9 (j := 1) (by decide)
  have r2 : aI st (some 40) (nI (9 * i) + (2 : Int32)) = some (xs (9 * i + 2)) := at40 h40 hL h9 (j := 2) (by decide)
  have r3 : aI st (some 40) (nI (9 * i) + (3 : Int32)) = some (xs (9 * i + 3)) := at40 h40 hL h9 (j := 3) (by decide)
  have r4 : aI st (some 40) (nI (9 * i) + (4 : Int32)) = some (xs (9 * i + 4)) := at40 h40 hL h9 (j := 4) (by decide)
  have r5 : aI st (some 40) (nI (9 * i) + (5 : Int32)) = some (xs (9 * i + 5)) := at40 h40 hL h9 (j := 5) (by decide)
  have r6 : aI st (some 40) (nI (9 * i) + (6 : Int32)) = some (xs (9 * i + 6)) := at40 h40 hL h9 (j := 6) (by decide)
  have r7 : aI st (some 40) (nI (9 * i) + (7 : Int32)) = some (xs (9 * i + 7)) := at40 h40 hL h9 (j := 7) (by decide)
  have r8 : aI st (some 40) (nI (9 * i) + (8 : Int32)) = some (xs (9 * i + 8)) := at40 h40 hL h9 (j := 8) (by decide)
  obtain ⟨v, s1, G1, I1, e1, K, kf, n1, n2, n3, f⟩ := E_note (n := n) R (xs (9 * i + 1)) (xs (9 * i + 2)) (xs (9 * i + 3)) (xs (9 * i + 4)) (xs (9 * i + 5)) (xs (9 * i + 6)) (xs (9 * i + 7)) (xs (9 * i + 8))
  have S1 := K.1
  have h41 := (kf 40 (Or.inl (by decide)) (by decide)).trans h40
  have t1 : aI s1 (some 40) (nI (9 * i) + (1 : Int32)) = some (xs (9 * i + 1)) := at40 h41 hL h9 (j := 1) (by decide)
  have t2 : aI s1 (some 40) (nI (9 * i) + (2 : Int32)) = some (xs (9 * i + 2)) := at40 h41 hL h9 (j := 2) (by decide)
  have t3 : aI s1 (some 40) (nI (9 * i) + (3 : Int32)) = some (xs (9 * i + 3)) := at40 h41 hL h9 (j := 3) (by decide)
  have t4 : aI s1 (some 40) (nI (9 * i) + (4 : Int32)) = some (xs (9 * i + 4)) := at40 h41 hL h9 (j := 4) (by decide)
  have t5 : aI s1 (some 40) (nI (9 * i) + (5 : Int32)) = some (xs (9 * i + 5)) := at40 h41 hL h9 (j := 5) (by decide)
  have t6 : aI s1 (some 40) (nI (9 * i) + (6 : Int32)) = some (xs (9 * i + 6)) := at40 h41 hL h9 (j := 6) (by decide)
  have t7 : aI s1 (some 40) (nI (9 * i) + (7 : Int32)) = some (xs (9 * i + 7)) := at40 h41 hL h9 (j := 7) (by decide)
  have t8 : aI s1 (some 40) (nI (9 * i) + (8 : Int32)) = some (xs (9 * i + 8)) := at40 h41 hL h9 (j := 8) (by decide)
  obtain ⟨s3, e2, N3, o3⟩ := f s1 (R.mdl.kf kf S1)
  dsimp only at e1 e2
  refine ⟨s3, ?_, ⟨G1, I1, (K.nf o3).and N3⟩, (o3.2.2.2 40 (by unfold QN; omega)).trans h41, by have := o3.1; omega, by have := o3.2.1; omega⟩
  unfold LB12
  simp only [↓bnd (r1), ↓bnd (r2), ↓bnd (r3), ↓bnd (r4), ↓bnd (r5), ↓bnd (r6), ↓bnd (r7), ↓bnd (r8), ↓bnd (o64 S), ↓bnd (e1), ↓bnd (t1), ↓bnd (t2), ↓bnd (t3), ↓bnd (t4), ↓bnd (t5), ↓bnd (t6), ↓bnd (t7), ↓bnd (t8), ↓bnd (o106 S1), ↓bnd (e2), lgc, eq_self, if_true, Option.bind_some, nx]
theorem lb_13 (J : LwJ L xs st i) (h9 : 9 * i + 9 ≤ L) (hL : L ≤ 4608) (hn : 3000 ≤ n) : ∃ st', LB13 n m st (some 40) (some 64) (some 106) (nI (9 * i)) = F_L_law_L18 n m st' (some 40) (some 64) (some 106) (nI (9 * (i + 1))) ∧ LwJ L xs st' (i + 1) := by
  obtain ⟨⟨G, I, R⟩, h40, c1, c2⟩ := J
  have S := R.sh
  have nx : nI (9 * i) + (9 : Int32) = nI (9 * (i + 1)) := nAdd (9 * i) 9
  have r1 : aI st (some 40) (nI (9 * i) + (1 : Int32)) = some (xs (9 * i + 1)) := at40 h40 hL h9 (j := 1) (by decide)
  have r2 : aI st (some 40) (nI (9 * i) + (2 : Int32)) = some (xs (9 * i + 2)) := at40 h40 hL h9 (j := 2) (by decide)
  obtain ⟨v, e1, e2⟩ := E_noted (n := n) R (xs (9 * i + 1)) (xs (9 * i + 2))
  refine ⟨st, ?_, ⟨G, I, R⟩, h40, by omega, by omega⟩
  unfold LB13
  simp only [↓bnd (r1), ↓bnd (r2), ↓bnd (o64 S), ↓bnd (e1), ↓bnd (o106 S), ↓bnd (e2), lgc, eq_self, if_true, Option.bind_some, nx]
theorem lb_14 (J : LwJ L xs st i) (h9 : 9 * i + 9 ≤ L) (hL : L ≤ 4608) (hn : 3000 ≤ n) : ∃ st', LB14 n m st (some 40) (some 64) (some 106) (nI (9 * i)) = F_L_law_L18 n m st' (some 40) (some 64) (some 106) (nI (9 * (i + 1))) ∧ LwJ L xs st' (i + 1) := by
  obtain ⟨⟨G, I, R⟩, h40, c1, c2⟩ := J
  have S := R.sh
  have nx : nI (9 * i) + (9 : Int32) = nI (9 * (i + 1)) := nAdd (9 * i) 9
  have r1 : aI st (some 40) (nI (9 * i) + (1 : Int32)) = some (xs (9 * i + 1)) := at40 h40 hL h9 (j := 1) (by decide)
  have r2 : aI st (some 40) (nI (9 * i) + (2 : Int32)) = some (xs (9 * i + 2)) := at40 h40 hL h9 (j := 2) (by decide)
  have r3 : aI st (some 40) (nI (9 * i) + (3 : Int32)) = some (xs (9 * i + 3)) := at40 h40 hL h9 (j := 3) (by decide)
  obtain ⟨v, s1, e1, o, f⟩ := E_sum (n := n) R (xs (9 * i + 1)) (xs (9 * i + 2)) (xs (9 * i + 3)) hn
  have R1 := R.qc o
  have h41 := (o.2.2.2 40 (by unfold QC; omega)).trans h40
  have t1 : aI s1 (some 40) (nI (9 * i) + (1 : Int32)) = some (xs (9 * i + 1)) := at40 h41 hL h9 (j := 1) (by decide)
  have t2 : aI s1 (some 40) (nI (9 * i) + (2 : Int32)) = some (xs (9 * i + 2)) := at40 h41 hL h9 (j := 2) (by decide)
  have t3 : aI s1 (some 40) (nI (9 * i) + (3 : Int32)) = some (xs (9 * i + 3)) := at40 h41 hL h9 (j := 3) (by decide)
  have e2 := f s1 R1
  refine ⟨s1, ?_, ⟨G, I, R1⟩, h41, by have := o.1; omega, by have := o.2.1; omega⟩
  unfold LB14
  simp only [↓bnd (r1), ↓bnd (r2), ↓bnd (r3), ↓bnd (o64 S), ↓bnd (e1), ↓bnd (t1), ↓bnd (t2), ↓bnd (t3), ↓bnd (o106 R1.sh), ↓bnd (e2), lgc, eq_self, if_true, Option.bind_some, nx]
theorem lb_15 (J : LwJ L xs st i) (h9 : 9 * i + 9 ≤ L) (hL : L ≤ 4608) (hn : 3000 ≤ n) : ∃ st', LB15 n m st (some 40) (some 64) (some 106) (nI (9 * i)) = F_L_law_L18 n m st' (some 40) (some 64) (some 106) (nI (9 * (i + 1))) ∧ LwJ L xs st' (i + 1) := by
  obtain ⟨⟨G, I, R⟩, h40, c1, c2⟩ := J
  have S := R.sh
  have nx : nI (9 * i) + (9 : Int32) = nI (9 * (i + 1)) := nAdd (9 * i) 9
  have r1 : aI st (some 40) (nI (9 * i) + (1 : Int32)) = some (xs (9 * i + 1)) := at40 h40 hL h9 (j := 1) (by decide)
  have r2 : aI st (some 40) (nI (9 * i) + (2 : Int32)) = some (xs (9 * i + 2)) := at40 h40 hL h9 (j := 2) (by decide)
  have r3 : aI st (some 40) (nI (9 * i) + (3 : Int32)) = some (xs (9 * i + 3)) := at40 h40 hL h9 (j := 3) (by decide)
  obtain ⟨v, s1, e1, o, f⟩ := E_table (n := n) R (xs (9 * i + 1)) (xs (9 * i + 2)) (xs (9 * i + 3)) hn
  have R1 := R.qc o
  have h41 := (o.2.2.2 40 (by unfold QC; omega)).trans h40
  have t1 : aI s1 (some 40) (nI (9 * i) + (1 : Int32)) = some (xs (9 * i + 1)) := at40 h41 hL h9 (j := 1) (by decide)
  have t2 : aI s1 (some 40) (nI (9 * i) + (2 : Int32)) = some (xs (9 * i + 2)) := at40 h41 hL h9 (j := 2) (by decide)
  have t3 : aI s1 (some 40) (nI (9 * i) + (3 : Int32)) = some (xs (9 * i + 3)) := at40 h41 hL h9 (j := 3) (by decide)
  have e2 := f s1 R1
  refine ⟨s1, ?_, ⟨G, I, R1⟩, h41, by have := o.1; omega, by have := o.2.1; omega⟩
  unfold LB15
  simp only [↓bnd (r1), ↓bnd (r2), ↓bnd (r3), ↓bnd (o64 S), ↓bnd (e1), ↓bnd (t1), ↓bnd (t2), ↓bnd (t3), ↓bnd (o106 R1.sh), ↓bnd (e2), lgc, eq_self, if_true, Option.bind_some, nx]
theorem lb_16 (J : LwJ L xs st i) (h9 : 9 * i + 9 ≤ L) (hL : L ≤ 4608) (hn : 3000 ≤ n) : ∃ st', LB16 n m st (some 40) (some 64) (some 106) (nI (9 * i)) = F_L_law_L18 n m st' (some 40) (some 64) (some 106) (nI (9 * (i + 1))) ∧ LwJ L xs st' (i + 1) := by
  obtain ⟨⟨G, I, R⟩, h40, c1, c2⟩ := J
  have S := R.sh
  have nx : nI (9 * i) + (9 : Int32) = nI (9 * (i + 1)) := nAdd (9 * i) 9
  have r1 : aI st (some 40) (nI (9 * i) + (1 : Int32)) = some (xs (9 * i + 1)) := at40 h40 hL h9 (j := 1) (by decide)
  have r2 : aI st (some 40) (nI (9 * i) + (2 : Int32)) = some (xs (9 * i + 2)) := at40 h40 hL h9 (j := 2) (by decide)
  have r3 : aI st (some 40) (nI (9 * i) + (3 : Int32)) = some (xs (9 * i + 3)) := at40 h40 hL h9 (j := 3) (by decide)
  obtain ⟨v, s1, e1, o, f⟩ := E_points (n := n) R (xs (9 * i + 1)) (xs (9 * i + 2)) (xs (9 * i + 3)) hn
  have R1 := R.qc o
  have h41 := (o.2.2.2 40 (by unfold QC; omega)).trans h40
  have t1 : aI s1 (some 40) (nI (9 * i) + (1 : Int32)) = some (xs (9 * i + 1)) := at40 h41 hL h9 (j := 1) (by decide)
  have t2 : aI s1 (some 40) (nI (9 * i) + (2 : Int32)) = some (xs (9 * i + 2)) := at40 h41 hL h9 (j := 2) (by decide)
  have t3 : aI s1 (some 40) (nI (9 * i) + (3 : Int32)) = some (xs (9 * i + 3)) := at40 h41 hL h9 (j := 3) (by decide)
  have e2 := f s1 R1
  refine ⟨s1, ?_, ⟨G, I, R1⟩, h41, by have := o.1; omega, by have := o.2.1; omega⟩
  unfold LB16
  simp only [↓bnd (r1), ↓bnd (r2), ↓bnd (r3), ↓bnd (o64 S), ↓bnd (e1), ↓bnd (t1), ↓bnd (t2), ↓bnd (t3), ↓bnd (o106 R1.sh), ↓bnd (e2), lgc, eq_self, if_true, Option.bind_some, nx]
theorem lb_17 (J : LwJ L xs st i) (h9 : 9 * i + 9 ≤ L) (hL : L ≤ 4608) (hn : 3000 ≤ n) : ∃ st', LB17 n m st (some 40) (some 64) (some 106) (nI (9 * i)) = F_L_law_L18 n m st' (some 40) (some 64) (some 106) (nI (9 * (i + 1))) ∧ LwJ L xs st' (i + 1) := by
  obtain ⟨⟨G, I, R⟩, h40, c1, c2⟩ := J
  have S := R.sh
  have nx : nI (9 * i) + (9 : Int32) = nI (9 * (i + 1)) := nAdd (9 * i) 9
  have r1 : aI st (some 40) (nI (9 * i) + (1 : Int32)) = some (xs (9 * i + 1)) := at40 h40 hL h9 (j := 1) (by decide)
  have r2 : aI st (some 40) (nI (9 * i) + (2 : Int32)) = some (xs (9 * i + 2)) := at40 h40 hL h9 (j := 2) (by decide)
  have r3 : aI st (some 40) (nI (9 * i) + (3 : Int32)) = some (xs (9 * i + 3)) := at40 h40 hL h9 (j := 3) (by decide)
  obtain ⟨q3, hq3, eq3⟩ := bqL (xs (9 * i + 3))
  obtain ⟨v, s1, e1, o, f⟩ := E_alone (n := n) R (xs (9 * i + 1)) (xs (9 * i + 2)) (nI q3) hn
  have R1 := R.qc o
  have h41 := (o.2.2.2 40 (by unfold QC; omega)).trans h40
  have t1 : aI s1 (some 40) (nI (9 * i) + (1 : Int32)) = some (xs (9 * i + 1)) := at40 h41 hL h9 (j := 1) (by decide)
  have t2 : aI s1 (some 40) (nI (9 * i) + (2 : Int32)) = some (xs (9 * i + 2)) := at40 h41 hL h9 (j := 2) (by decide)
  have t3 : aI s1 (some 40) (nI (9 * i) + (3 : Int32)) = some (xs (9 * i + 3)) := at40 h41 hL h9 (j := 3) (by decide)
  obtain ⟨s3, e2, o3, h15⟩ := f s1 R1
  refine ⟨s3, ?_, ⟨G, I, R1.qm o3 h15⟩, (o3.2.2.2 40 (by unfold QM; omega)).trans h41, by have := o.1; have := o3.1; omega, by have := o.2.1; have := o3.2.1; omega⟩
  unfold LB17
  simp only [↓bnd (r1), ↓bnd (r2), ↓bnd (r3), ↓bnd (eq3), ↓bnd (o64 S), ↓bnd (e1), ↓bnd (t1), ↓bnd (t2), ↓bnd (t3), ↓bnd (eq3), ↓bnd (o106 R1.sh), ↓bnd (e2), lgc, eq_self, if_true, Option.bind_some, nx]
theorem lb_18 (J : LwJ L xs st i) (h9 : 9 * i + 9 ≤ L) (hL : L ≤ 4608) (hn : 3000 ≤ n) : ∃ st', LB18 n m st (some 40) (some 64) (some 106) (nI (9 * i)) = F_L_law_L18 n m st' (some 40) (some 64) (some 106) (nI (9 * (i + 1))) ∧ LwJ L xs st' (i + 1) := by
  obtain ⟨⟨G, I, R⟩, h40, c1, c2⟩ := J
  have S := R.sh
  have nx : nI (9 * i) + (9 : Int32) = nI (9 * (i + 1)) := nAdd (9 * i) 9
  have r1 : aI st (some 40) (nI (9 * i) + (1 : Int32)) = some (xs (9 * i + 1)) := at40 h40 hL h9 (j := 1) (by decide)
  have r2 : aI st (some 40) (nI (9 * i) + (2 : Int32)) = some (xs (9 * i + 2)) := at40 h40 hL h9 (j := 2) (by decide)
  have r3 : aI st (some 40) (nI (9 * i) + (3 : Int32)) = some (xs (9 * i + 3)) := at40 h40 hL h9 (j := 3) (by decide)
  have r4 : aI st (some 40) (nI (9 * i) + (4 : Int32)) = some (xs (9 * i + 4)) := at40 h40 hL h9 (j := 4) (by decide)
  obtain ⟨q4, hq4, eq4⟩ := bqL (xs (9 * i + 4))
  obtain ⟨v, s1, e1, o, f⟩ := E_both (n := n) R (xs (9 * i + 1)) (xs (9 * i + 2)) (xs (9 * i + 3)) (nI q4) hn
  have R1 := R.qc o
  have h41 := (o.2.2.2 40 (by unfold QC; omega)).trans h40
  have t1 : aI s1 (some 40) (nI (9 * i) + (1 : Int32)) = some (xs (9 * i + 1)) := at40 h41 hL h9 (j := 1) (by decide)
  have t2 : aI s1 (some 40) (nI (9 * i) + (2 : Int32)) = some (xs (9 * i + 2)) := at40 h41 hL h9 (j := 2) (by decide)
  have t3 : aI s1 (some 40) (nI (9 * i) + (3 : Int32)) = some (xs (9 * i + 3)) := at40 h41 hL h9 (j := 3) (by decide)
  have t4 : aI s1 (some 40) (nI (9 * i) + (4 : Int32)) = some (xs (9 * i + 4)) := at40 h41 hL h9 (j := 4) (by decide)
  obtain ⟨s3, e2, o3, h15⟩ := f s1 R1
  refine ⟨s3, ?_, ⟨G, I, R1.qm o3 h15⟩, (o3.2.2.2 40 (by unfold QM; omega)).trans h41, by have := o.1; have := o3.1; omega, by have := o.2.1; have := o3.2.1; omega⟩
  unfold LB18
  simp only [↓bnd (r1), ↓bnd (r2), ↓bnd (r3), ↓bnd (r4), ↓bnd (eq4), ↓bnd (o64 S), ↓bnd (e1), ↓bnd (t1), ↓bnd (t2), ↓bnd (t3), ↓bnd (t4), ↓bnd (eq4), ↓bnd (o106 R1.sh), ↓bnd (e2), lgc, eq_self, if_true, Option.bind_some, nx]
theorem lb_19 (J : LwJ L xs st i) (h9 : 9 * i + 9 ≤ L) (hL : L ≤ 4608) (hn : 3000 ≤ n) : ∃ st', LB19 n m st (some 40) (some 64) (some 106) (nI (9 * i)) = F_L_law_L18 n m st' (some 40) (some 64) (some 106) (nI (9 * (i + 1))) ∧ LwJ L xs st' (i + 1) := by
  obtain ⟨⟨G, I, R⟩, h40, c1, c2⟩ := J
  have S := R.sh
  have nx : nI (9 * i) + (9 : Int32) = nI (9 * (i + 1)) := nAdd (9 * i) 9
  have r1 : aI st (some 40) (nI (9 * i) + (1 : Int32)) = some (xs (9 * i + 1)) := at40 h40 hL h9 (j := 1) (by decide)
  have r2 : aI st (some 40) (nI (9 * i) + (2 : Int32)) = some (xs (9 * i + 2)) := at40 h40 hL h9 (j := 2) (by decide)
  have r3 : aI st (some 40) (nI (9 * i) + (3 : Int32)) = some (xs (9 * i + 3)) := at40 h40 hL h9 (j := 3) (by decide)
  obtain ⟨q3, hq3, eq3⟩ := bqL (xs (9 * i + 3))
  obtain ⟨v, s1, e1, o, f⟩ := E_off (n := n) R (xs (9 * i + 1)) (xs (9 * i + 2)) (nI q3) hn
  have R1 := R.qc o
  have h41 := (o.2.2.2 40 (by unfold QC; omega)).trans h40
  have t1 : aI s1 (some 40) (nI (9 * i) + (1 : Int32)) = some (xs (9 * i + 1)) := at40 h41 hL h9 (j := 1) (by decide)
  have t2 : aI s1 (some 40) (nI (9 * i) + (2 : Int32)) = some (xs (9 * i + 2)) := at40 h41 hL h9 (j := 2) (by decide)
  have t3 : aI s1 (some 40) (nI (9 * i) + (3 : Int32)) = some (xs (9 * i + 3)) := at40 h41 hL h9 (j := 3) (by decide)
  obtain ⟨s3, e2, o3, h15⟩ := f s1 R1
  refine ⟨s3, ?_, ⟨G, I, R1.qm o3 h15⟩, (o3.2.2.2 40 (by unfold QM; omega)).trans h41, by have := o.1; have := o3.1; omega, by have := o.2.1; have := o3.2.1; omega⟩
  unfold LB19
  simp only [↓bnd (r1), ↓bnd (r2), ↓bnd (r3), ↓bnd (eq3), ↓bnd (o64 S), ↓bnd (e1), ↓bnd (t1), ↓bnd (t2), ↓bnd (t3), ↓bnd (eq3), ↓bnd (o106 R1.sh), ↓bnd (e2), lgc, eq_self, if_true, Option.bind_some, nx]
theorem lb_20 (J : LwJ L xs st i) (h9 : 9 * i + 9 ≤ L) (hL : L ≤ 4608) (hn : 3000 ≤ n) : ∃ st', LB20 n m st (some 40) (some 64) (some 106) (nI (9 * i)) = F_L_law_L18 n m st' (some 40) (some 64) (some 106) (nI (9 * (i + 1))) ∧ LwJ L xs st' (i + 1) := by
  obtain ⟨⟨G, I, R⟩, h40, c1, c2⟩ := J
  have S := R.sh
  have nx : nI (9 * i) + (9 : Int32) = nI (9 * (i + 1)) := nAdd (9 * i) 9
  have r1 : aI st (some 40) (nI (9 * i) + (1 : Int32)) = some (xs (9 * i + 1)) := at40 h40 hL h9 (j := 1) (by decide)
  have r2 : aI st (some 40) (nI (9 * i) + (2 : Int32)) = some (xs (9 * i + 2)) := at40 h40 hL h9 (j := 2) (by decide)
  have r3 : aI st (some 40) (nI (9 * i) + (3 : Int32)) = some (xs (9 * i + 3)) := at40 h40 hL h9 (j := 3) (by decide)
  have r4 : aI st (some 40) (nI (9 * i) + (4 : Int32)) = some (xs (9 * i + 4)) := at40 h40 hL h9 (j := 4) (by decide)
  obtain ⟨q4, hq4, eq4⟩ := bqL (xs (9 * i + 4))
  obtain ⟨v, s1, e1, o, f⟩ := E_people (n := n) R (xs (9 * i + 1)) (xs (9 * i + 2)) (xs (9 * i + 3)) (nI q4) hn
  have R1 := R.qc o
  have h41 := (o.2.2.2 40 (by unfold QC; omega)).trans h40
  have t1 : aI s1 (some 40) (nI (9 * i) + (1 : Int32)) = some (xs (9 * i + 1)) := at40 h41 hL h9 (j := 1) (by decide)
  have t2 : aI s1 (some 40) (nI (9 * i) + (2 : Int32)) = some (xs (9 * i + 2)) := at40 h41 hL h9 (j := 2) (by decide)
  have t3 : aI s1 (some 40) (nI (9 * i) + (3 : Int32)) = some (xs (9 * i + 3)) := at40 h41 hL h9 (j := 3) (by decide)
  have t4 : aI s1 (some 40) (nI (9 * i) + (4 : Int32)) = some (xs (9 * i + 4)) := at40 h41 hL h9 (j := 4) (by decide)
  obtain ⟨s3, e2, o3, h15⟩ := f s1 R1
  refine ⟨s3, ?_, ⟨G, I, R1.qm o3 h15⟩, (o3.2.2.2 40 (by unfold QM; omega)).trans h41, by have := o.1; have := o3.1; omega, by have := o.2.1; have := o3.2.1; omega⟩
  unfold LB20
  simp only [↓bnd (r1), ↓bnd (r2), ↓bnd (r3), ↓bnd (r4), ↓bnd (eq4), ↓bnd (o64 S), ↓bnd (e1), ↓bnd (t1), ↓bnd (t2), ↓bnd (t3), ↓bnd (t4), ↓bnd (eq4), ↓bnd (o106 R1.sh), ↓bnd (e2), lgc, eq_self, if_true, Option.bind_some, nx]
theorem lb_21 (J : LwJ L xs st i) (h9 : 9 * i + 9 ≤ L) (hL : L ≤ 4608) (hn : 3000 ≤ n) : ∃ st', LB21 n m st (some 40) (some 64) (some 106) (nI (9 * i)) = F_L_law_L18 n m st' (some 40) (some 64) (some 106) (nI (9 * (i + 1))) ∧ LwJ L xs st' (i + 1) := by
  obtain ⟨⟨G, I, R⟩, h40, c1, c2⟩ := J
  have S := R.sh
  have nx : nI (9 * i) + (9 : Int32) = nI (9 * (i + 1)) := nAdd (9 * i) 9
  have r1 : aI st (some 40) (nI (9 * i) + (1 : Int32)) = some (xs (9 * i + 1)) := at40 h40 hL h9 (j := 1) (by decide)
  have r2 : aI st (some 40) (nI (9 * i) + (2 : Int32)) = some (xs (9 * i + 2)) := at40 h40 hL h9 (j := 2) (by decide)
  have r3 : aI st (some 40) (nI (9 * i) + (3 : Int32)) = some (xs (9 * i + 3)) := at40 h40 hL h9 (j := 3) (by decide)
  obtain ⟨q3, hq3, eq3⟩ := bqL (xs (9 * i + 3))
  obtain ⟨v, s1, e1, o, f⟩ := E_slope (n := n) R (xs (9 * i + 1)) (xs (9 * i + 2)) (nI q3) hn
  have R1 := R.qc o
  have h41 := (o.2.2.2 40 (by unfold QC; omega)).trans h40
  have t1 : aI s1 (some 40) (nI (9 * i) + (1 : Int32)) = some (xs (9 * i + 1)) := at40 h41 hL h9 (j := 1) (by decide)
  have t2 : aI s1 (some 40) (nI (9 * i) + (2 : Int32)) = some (xs (9 * i + 2)) := at40 h41 hL h9 (j := 2) (by decide)
  have t3 : aI s1 (some 40) (nI (9 * i) + (3 : Int32)) = some (xs (9 * i + 3)) := at40 h41 hL h9 (j := 3) (by decide)
  have e2 := f s1 R1
  refine ⟨s1, ?_, ⟨G, I, R1⟩, h41, by have := o.1; omega, by have := o.2.1; omega⟩
  unfold LB21
  simp only [↓bnd (r1), ↓bnd (r2), ↓bnd (r3), ↓bnd (eq3), ↓bnd (o64 S), ↓bnd (e1), ↓bnd (t1), ↓bnd (t2), ↓bnd (t3), ↓bnd (eq3), ↓bnd (o106 R1.sh), ↓bnd (e2), lgc, eq_self, if_true, Option.bind_some, nx]
theorem lb_22 (J : LwJ L xs st i) (h9 : 9 * i + 9 ≤ L) (hL : L ≤ 4608) (hn : 3000 ≤ n) : ∃ st', LB22 n m st (some 40) (some 64) (some 106) (nI (9 * i)) = F_L_law_L18 n m st' (some 40) (some 64) (some 106) (nI (9 * (i + 1))) ∧ LwJ L xs st' (i + 1) := by
  obtain ⟨⟨G, I, R⟩, h40, c1, c2⟩ := J
  have S := R.sh
  have nx : nI (9 * i) + (9 : Int32) = nI (9 * (i + 1)) := nAdd (9 * i) 9
  have r1 : aI st (some 40) (nI (9 * i) + (1 : Int32)) = some (xs (9 * i + 1)) := at40 h40 hL h9 (j := 1) (by decide)
  have r2 : aI st (some 40) (nI (9 * i) + (2 : Int32)) = some (xs (9 * i + 2)) := at40 h40 hL h9 (j := 2) (by decide)
  have r3 : aI st (some 40) (nI (9 * i) + (3 : Int32)) = some (xs (9 * i + 3)) := at40 h40 hL h9 (j := 3) (by decide)
  have r4 : aI st (some 40) (nI (9 * i) + (4 : Int32)) = some (xs (9 * i + 4)) := at40 h40 hL h9 (j := 4) (by decide)
  obtain ⟨q4, hq4, eq4⟩ := bqL (xs (9 * i + 4))
  obtain ⟨v, s1, e1, o, f⟩ := E_odds (n := n) R (xs (9 * i + 1)) (xs (9 * i + 2)) (xs (9 * i + 3)) (nI q4) hn
  have R1 := R.qc o
  have h41 := (o.2.2.2 40 (by unfold QC; omega)).trans h40
  have t1 : aI s1 (some 40) (nI (9 * i) + (1 : Int32)) = some (xs (9 * i + 1)) := at40 h41 hL h9 (j := 1) (by decide)
  have t2 : aI s1 (some 40) (nI (9 * i) + (2 : Int32)) = some (xs (9 * i + 2)) := at40 h41 hL h9 (j := 2) (by decide)
  have t3 : aI s1 (some 40) (nI (9 * i) + (3 : Int32)) = some (xs (9 * i + 3)) := at40 h41 hL h9 (j := 3) (by decide)
  have t4 : aI s1 (some 40) (nI (9 * i) + (4 : Int32)) = some (xs (9 * i + 4)) := at40 h41 hL h9 (j := 4) (by decide)
  obtain ⟨s3, e2, o3, h15⟩ := f s1 R1
  refine ⟨s3, ?_, ⟨G, I, R1.qm o3 h15⟩, (o3.2.2.2 40 (by unfold QM; omega)).trans h41, by have := o.1; have := o3.1; omega, by have := o.2.1; have := o3.2.1; omega⟩
  unfold LB22
  simp only [↓bnd (r1), ↓bnd (r2), ↓bnd (r3), ↓bnd (r4), ↓bnd (eq4), ↓bnd (o64 S), ↓bnd (e1), ↓bnd (t1), ↓bnd (t2), ↓bnd (t3), ↓bnd (t4), ↓bnd (eq4), ↓bnd (o106 R1.sh), ↓bnd (e2), lgc, eq_self, if_true, Option.bind_some, nx]
theorem lb_23 (J : LwJ L xs st i) (h9 : 9 * i + 9 ≤ L) (hL : L ≤ 4608) (hn : 3000 ≤ n) : ∃ st', LB23 n m st (some 40) (some 64) (some 106) (nI (9 * i)) = F_L_law_L18 n m st' (some 40) (some 64) (some 106) (nI (9 * (i + 1))) ∧ LwJ L xs st' (i + 1) := by
  obtain ⟨⟨G, I, R⟩, h40, c1, c2⟩ := J
  have S := R.sh
  have nx : nI (9 * i) + (9 : Int32) = nI (9 * (i + 1)) := nAdd (9 * i) 9
  have r1 : aI st (some 40) (nI (9 * i) + (1 : Int32)) = some (xs (9 * i + 1)) := at40 h40 hL h9 (j := 1) (by decide)
  have r2 : aI st (some 40) (nI (9 * i) + (2 : Int32)) = some (xs (9 * i + 2)) := at40 h40 hL h9 (j := 2) (by decide)
  have r3 : aI st (some 40) (nI (9 * i) + (3 : Int32)) = some (xs (9 * i + 3)) := at40 h40 hL h9 (j := 3) (by decide)
  obtain ⟨v, s1, e1, o, f⟩ := E_carded (n := n) R (xs (9 * i + 1)) (xs (9 * i + 2)) (xs (9 * i + 3)) hn
  have R1 := R.qc o
  have h41 := (o.2.2.2 40 (by unfold QC; omega)).trans h40
  have t1 : aI s1 (some 40) (nI (9 * i) + (1 : Int32)) = some (xs (9 * i + 1)) := at40 h41 hL h9 (j := 1) (by decide)
  have t2 : aI s1 (some 40) (nI (9 * i) + (2 : Int32)) = some (xs (9 * i + 2)) := at40 h41 hL h9 (j := 2) (by decide)
  have t3 : aI s1 (some 40) (nI (9 * i) + (3 : Int32)) = some (xs (9 * i + 3)) := at40 h41 hL h9 (j := 3) (by decide)
  have e2 := f s1 R1
  refine ⟨s1, ?_, ⟨G, I, R1⟩, h41, by have := o.1; omega, by have := o.2.1; omega⟩
  unfold LB23
  simp only [↓bnd (r1), ↓bnd (r2), ↓bnd (r3), ↓bnd (o64 S), ↓bnd (e1), ↓bnd (t1), ↓bnd (t2), ↓bnd (t3), ↓bnd (o106 R1.sh), ↓bnd (e2), lgc, eq_self, if_true, Option.bind_some, nx]
theorem lb_24 (J : LwJ L xs st i) (h9 : 9 * i + 9 ≤ L) (hL : L ≤ 4608) (hn : 3000 ≤ n) : ∃ st', LB24 n m st (some 40) (some 64) (some 106) (nI (9 * i)) = F_L_law_L18 n m st' (some 40) (some 64) (some 106) (nI (9 * (i + 1))) ∧ LwJ L xs st' (i + 1) := by
  obtain ⟨⟨G, I, R⟩, h40, c1, c2⟩ := J
  have S := R.sh
  have nx : nI (9 * i) + (9 : Int32) = nI (9 * (i + 1)) := nAdd (9 * i) 9
  have r1 : aI st (some 40) (nI (9 * i) + (1 : Int32)) = some (xs (9 * i + 1)) := at40 h40 hL h9 (j := 1) (by decide)
  have r2 : aI st (some 40) (nI (9 * i) + (2 : Int32)) = some (xs (9 * i + 2)) := at40 h40 hL h9 (j := 2) (by decide)
  have r3 : aI st (some 40) (nI (9 * i) + (3 : Int32)) = some (xs (9 * i + 3)) := at40 h40 hL h9 (j := 3) (by decide)
  have r4 : aI st (some 40) (nI (9 * i) + (4 : Int32)) = some (xs (9 * i + 4)) := at40 h40 hL h9 (j := 4) (by decide)
  obtain ⟨q4, hq4, eq4⟩ := bqL (xs (9 * i + 4))
  obtain ⟨v, s1, e1, o, f⟩ := E_longer (n := n) R (xs (9 * i + 1)) (xs (9 * i + 2)) (xs (9 * i + 3)) (nI q4) hn
  have R1 := R.qc o
  have h41 := (o.2.2.2 40 (by unfold QC; omega)).trans h40
  have t1 : aI s1 (some 40) (nI (9 * i) + (1 : Int32)) = some (xs (9 * i + 1)) := at40 h41 hL h9 (j := 1) (by decide)
  have t2 : aI s1 (some 40) (nI (9 * i) + (2 : Int32)) = some (xs (9 * i + 2)) := at40 h41 hL h9 (j := 2) (by decide)
  have t3 : aI s1 (some 40) (nI (9 * i) + (3 : Int32)) = some (xs (9 * i + 3)) := at40 h41 hL h9 (j := 3) (by decide)
  have t4 : aI s1 (some 40) (nI (9 * i) + (4 : Int32)) = some (xs (9 * i + 4)) := at40 h41 hL h9 (j := 4) (by decide)
  obtain ⟨s3, e2, o3, h15⟩ := f s1 R1
  refine ⟨s3, ?_, ⟨G, I, R1.qm o3 h15⟩, (o3.2.2.2 40 (by unfold QM; omega)).trans h41, by have := o.1; have := o3.1; omega, by have := o.2.1; have := o3.2.1; omega⟩
  unfold LB24
  simp only [↓bnd (r1), ↓bnd (r2), ↓bnd (r3), ↓bnd (r4), ↓bnd (eq4), ↓bnd (o64 S), ↓bnd (e1), ↓bnd (t1), ↓bnd (t2), ↓bnd (t3), ↓bnd (t4), ↓bnd (eq4), ↓bnd (o106 R1.sh), ↓bnd (e2), lgc, eq_self, if_true, Option.bind_some, nx]
theorem lb_25 (J : LwJ L xs st i) (h9 : 9 * i + 9 ≤ L) (hL : L ≤ 4608) (hn : 3000 ≤ n) : ∃ st', LB25 n m st (some 40) (some 64) (some 106) (nI (9 * i)) = F_L_law_L18 n m st' (some 40) (some 64) (some 106) (nI (9 * (i + 1))) ∧ LwJ L xs st' (i + 1) := by
  obtain ⟨⟨G, I, R⟩, h40, c1, c2⟩ := J
  have S := R.sh
  have nx : nI (9 * i) + (9 : Int32) = nI (9 * (i + 1)) := nAdd (9 * i) 9
  have r1 : aI st (some 40) (nI (9 * i) + (1 : Int32)) = some (xs (9 * i + 1)) := at40 h40 hL h9 (j := 1) (by decide)
  have r2 : aI st (some 40) (nI (9 * i) + (2 : Int32)) = some (xs (9 * i + 2)) := at40 h40 hL h9 (j := 2) (by decide)
  have r3 : aI st (some 40) (nI (9 * i) + (3 : Int32)) = some (xs (9 * i + 3)) := at40 h40 hL h9 (j := 3) (by decide)
  obtain ⟨v, s1, e1, o, f⟩ := E_fresh (n := n) R (xs (9 * i + 1)) (xs (9 * i + 2)) (xs (9 * i + 3)) hn
  have R1 := R.qc o
  have h41 := (o.2.2.2 40 (by unfold QC; omega)).trans h40
  have t1 : aI s1 (some 40) (nI (9 * i) + (1 : Int32)) = some (xs (9 * i + 1)) := at40 h41 hL h9 (j := 1) (by decide)
  have t2 : aI s1 (some 40) (nI (9 * i) + (2 : Int32)) = some (xs (9 * i + 2)) := at40 h41 hL h9 (j := 2) (by decide)
  have t3 : aI s1 (some 40) (nI (9 * i) + (3 : Int32)) = some (xs (9 * i + 3)) := at40 h41 hL h9 (j := 3) (by decide)
  obtain ⟨s3, e2, o3, h15⟩ := f s1 R1
  refine ⟨s3, ?_, ⟨G, I, R1.qm o3 h15⟩, (o3.2.2.2 40 (by unfold QM; omega)).trans h41, by have := o.1; have := o3.1; omega, by have := o.2.1; have := o3.2.1; omega⟩
  unfold LB25
  simp only [↓bnd (r1), ↓bnd (r2), ↓bnd (r3), ↓bnd (o64 S), ↓bnd (e1), ↓bnd (t1), ↓bnd (t2), ↓bnd (t3), ↓bnd (o106 R1.sh), ↓bnd (e2), lgc, eq_self, if_true, Option.bind_some, nx]
theorem lb_26 (J : LwJ L xs st i) (h9 : 9 * i + 9 ≤ L) (hL : L ≤ 4608) (hn : 3000 ≤ n) : ∃ st', LB26 n m st (some 40) (some 64) (some 106) (nI (9 * i)) = F_L_law_L18 n m st' (some 40) (some 64) (some 106) (nI (9 * (i + 1))) ∧ LwJ L xs st' (i + 1) := by
  obtain ⟨⟨G, I, R⟩, h40, c1, c2⟩ := J
  have S := R.sh
  have nx : nI (9 * i) + (9 : Int32) = nI (9 * (i + 1)) := nAdd (9 * i) 9
  have r1 : aI st (some 40) (nI (9 * i) + (1 : Int32)) = some (xs (9 * i + 1)) := at40 h40 hL h9 (j := 1) (by decide)
  have r2 : aI st (some 40) (nI (9 * i) + (2 : Int32)) = some (xs (9 * i + 2)) := at40 h40 hL h9 (j := 2) (by decide)
  have r3 : aI st (some 40) (nI (9 * i) + (3 : Int32)) = some (xs (9 * i + 3)) := at40 h40 hL h9 (j := 3) (by decide)
  have r4 : aI st (some 40) (nI (9 * i) + (4 : Int32)) = some (xs (9 * i + 4)) := at40 h40 hL h9 (j := 4) (by decide)
  obtain ⟨q2, hq2, eq2⟩ := bqL (xs (9 * i + 2))
  obtain ⟨v, s1, G1, I1, e1, K, kf, n1, n2, n3, f⟩ := E_films (n := n) R (xs (9 * i + 1)) (nI q2) (xs (9 * i + 3)) (xs (9 * i + 4))
  have S1 := K.1
  have h41 := (kf 40 (Or.inl (by decide)) (by decide)).trans h40
  have t1 : aI s1 (some 40) (nI (9 * i) + (1 : Int32)) = some (xs (9 * i + 1)) := at40 h41 hL h9 (j := 1) (by decide)
  have t2 : aI s1 (some 40) (nI (9 * i) + (2 : Int32)) = some (xs (9 * i + 2)) := at40 h41 hL h9 (j := 2) (by decide)
  have t3 : aI s1 (some 40) (nI (9 * i) + (3 : Int32)) = some (xs (9 * i + 3)) := at40 h41 hL h9 (j := 3) (by decide)
  have t4 : aI s1 (some 40) (nI (9 * i) + (4 : Int32)) = some (xs (9 * i + 4)) := at40 h41 hL h9 (j := 4) (by decide)
  obtain ⟨s3, e2, N3, o3⟩ := f s1 (R.mdl.kf kf S1)
  dsimp only at e1 e2
  refine ⟨s3, ?_, ⟨G1, I1, (K.nf o3).and N3⟩, (o3.2.2.2 40 (by unfold QN; omega)).trans h41, by have := o3.1; omega, by have := o3.2.1; omega⟩
  unfold LB26
  simp only [↓bnd (r1), ↓bnd (r2), ↓bnd (eq2), ↓bnd (r3), ↓bnd (r4), ↓bnd (o64 S), ↓bnd (e1), ↓bnd (t1), ↓bnd (t2), ↓bnd (eq2), ↓bnd (t3), ↓bnd (t4), ↓bnd (o106 S1), ↓bnd (e2), lgc, eq_self, if_true, Option.bind_some, nx]
theorem lb_27 (J : LwJ L xs st i) (h9 : 9 * i + 9 ≤ L) (hL : L ≤ 4608) (hn : 3000 ≤ n) : ∃ st', LB27 n m st (some 40) (some 64) (some 106) (nI (9 * i)) = F_L_law_L18 n m st' (some 40) (some 64) (some 106) (nI (9 * (i + 1))) ∧ LwJ L xs st' (i + 1) := by
  obtain ⟨⟨G, I, R⟩, h40, c1, c2⟩ := J
  have S := R.sh
  have nx : nI (9 * i) + (9 : Int32) = nI (9 * (i + 1)) := nAdd (9 * i) 9
  have r1 : aI st (some 40) (nI (9 * i) + (1 : Int32)) = some (xs (9 * i + 1)) := at40 h40 hL h9 (j := 1) (by decide)
  have r2 : aI st (some 40) (nI (9 * i) + (2 : Int32)) = some (xs (9 * i + 2)) := at40 h40 hL h9 (j := 2) (by decide)
  obtain ⟨q2, hq2, eq2⟩ := bqL (xs (9 * i + 2))
  obtain ⟨v, e1, f⟩ := E_looser (n := n) R (xs (9 * i + 1)) (nI q2) hn
  obtain ⟨s3, e2, o3, h15⟩ := f st R
  refine ⟨s3, ?_, ⟨G, I, R.qm o3 h15⟩, (o3.2.2.2 40 (by unfold QM; omega)).trans h40, by have := o3.1; omega, by have := o3.2.1; omega⟩
  unfold LB27
  simp only [↓bnd (r1), ↓bnd (r2), ↓bnd (eq2), ↓bnd (o64 S), ↓bnd (e1), ↓bnd (o106 S), ↓bnd (e2), lgc, eq_self, if_true, Option.bind_some, nx]
theorem lb_28 (J : LwJ L xs st i) (h9 : 9 * i + 9 ≤ L) (hL : L ≤ 4608) (hn : 3000 ≤ n) : ∃ st', LB28 n m st (some 40) (some 64) (some 106) (nI (9 * i)) = F_L_law_L18 n m st' (some 40) (some 64) (some 106) (nI (9 * (i + 1))) ∧ LwJ L xs st' (i + 1) := by
  obtain ⟨⟨G, I, R⟩, h40, c1, c2⟩ := J
  have S := R.sh
  have nx : nI (9 * i) + (9 : Int32) = nI (9 * (i + 1)) := nAdd (9 * i) 9
  have r1 : aI st (some 40) (nI (9 * i) + (1 : Int32)) = some (xs (9 * i + 1)) := at40 h40 hL h9 (j := 1) (by decide)
  have r2 : aI st (some 40) (nI (9 * i) + (2 : Int32)) = some (xs (9 * i + 2)) := at40 h40 hL h9 (j := 2) (by decide)
  have r3 : aI st (some 40) (nI (9 * i) + (3 : Int32)) = some (xs (9 * i + 3)) := at40 h40 hL h9 (j := 3) (by decide)
  obtain ⟨v, s1, e1, o, f⟩ := E_had (n := n) R (xs (9 * i + 1)) (xs (9 * i + 2)) (xs (9 * i + 3)) hn
  have R1 := R.qc o
  have h41 := (o.2.2.2 40 (by unfold QC; omega)).trans h40
  have t1 : aI s1 (some 40) (nI (9 * i) + (1 : Int32)) = some (xs (9 * i + 1)) := at40 h41 hL h9 (j := 1) (by decide)
  have t2 : aI s1 (some 40) (nI (9 * i) + (2 : Int32)) = some (xs (9 * i + 2)) := at40 h41 hL h9 (j := 2) (by decide)
  have t3 : aI s1 (some 40) (nI (9 * i) + (3 : Int32)) = some (xs (9 * i + 3)) := at40 h41 hL h9 (j := 3) (by decide)
  have e2 := f s1 R1
  refine ⟨s1, ?_, ⟨G, I, R1⟩, h41, by have := o.1; omega, by have := o.2.1; omega⟩
  unfold LB28
  simp only [↓bnd (r1), ↓bnd (r2), ↓bnd (r3), ↓bnd (o64 S), ↓bnd (e1), ↓bnd (t1), ↓bnd (t2), ↓bnd (t3), ↓bnd (o106 R1.sh), ↓bnd (e2), lgc, eq_self, if_true, Option.bind_some, nx]
theorem lb_29 (J : LwJ L xs st i) (h9 : 9 * i + 9 ≤ L) (hL : L ≤ 4608) (hn : 3000 ≤ n) : ∃ st', LB29 n m st (some 40) (some 64) (some 106) (nI (9 * i)) = F_L_law_L18 n m st' (some 40) (some 64) (some 106) (nI (9 * (i + 1))) ∧ LwJ L xs st' (i + 1) := by
  obtain ⟨⟨G, I, R⟩, h40, c1, c2⟩ := J
  have S := R.sh
  have nx : nI (9 * i) + (9 : Int32) = nI (9 * (i + 1)) := nAdd (9 * i) 9
  have r1 : aI st (some 40) (nI (9 * i) + (1 : Int32)) = some (xs (9 * i + 1)) := at40 h40 hL h9 (j := 1) (by decide)
  have r2 : aI st (some 40) (nI (9 * i) + (2 : Int32)) = some (xs (9 * i + 2)) := at40 h40 hL h9 (j := 2) (by decide)
  have r3 : aI st (some 40) (nI (9 * i) + (3 : Int32)) = some (xs (9 * i + 3)) := at40 h40 hL h9 (j := 3) (by decide)
  have r4 : aI st (some 40) (nI (9 * i) + (4 : Int32)) = some (xs (9 * i + 4)) := at40 h40 hL h9 (j := 4) (by decide)
  obtain ⟨v, s1, e1, o, f⟩ := E_fixed (n := n) R (xs (9 * i + 1)) (xs (9 * i + 2)) (xs (9 * i + 3)) (xs (9 * i + 4)) hn
  have R1 := R.qc o
  have h41 := (o.2.2.2 40 (by unfold QC; omega)).trans h40
  have t1 : aI s1 (some 40) (nI (9 * i) + (1 : Int32)) = some (xs (9 * i + 1)) := at40 h41 hL h9 (j := 1) (by decide)
  have t2 : aI s1 (some 40) (nI (9 * i) + (2 : Int32)) = some (xs (9 * i + 2)) := at40 h41 hL h9 (j := 2) (by decide)
  have t3 : aI s1 (some 40) (nI (9 * i) + (3 : Int32)) = some (xs (9 * i + 3)) := at40 h41 hL h9 (j := 3) (by decide)
  have t4 : aI s1 (some 40) (nI (9 * i) + (4 : Int32)) = some (xs (9 * i + 4)) := at40 h41 hL h9 (j := 4) (by decide)
  obtain ⟨s3, e2, o3, h15⟩ := f s1 R1
  refine ⟨s3, ?_, ⟨G, I, R1.qm o3 h15⟩, (o3.2.2.2 40 (by unfold QM; omega)).trans h41, by have := o.1; have := o3.1; omega, by have := o.2.1; have := o3.2.1; omega⟩
  unfold LB29
  simp only [↓bnd (r1), ↓bnd (r2), ↓bnd (r3), ↓bnd (r4), ↓bnd (o64 S), ↓bnd (e1), ↓bnd (t1), ↓bnd (t2), ↓bnd (t3), ↓bnd (t4), ↓bnd (o106 R1.sh), ↓bnd (e2), lgc, eq_self, if_true, Option.bind_some, nx]
theorem lb_30 (J : LwJ L xs st i) (h9 : 9 * i + 9 ≤ L) (hL : L ≤ 4608) (hn : 3000 ≤ n) : ∃ st', LB30 n m st (some 40) (some 64) (some 106) (nI (9 * i)) = F_L_law_L18 n m st' (some 40) (some 64) (some 106) (nI (9 * (i + 1))) ∧ LwJ L xs st' (i + 1) := by
  obtain ⟨⟨G, I, R⟩, h40, c1, c2⟩ := J
  have S := R.sh
  have nx : nI (9 * i) + (9 : Int32) = nI (9 * (i + 1)) := nAdd (9 * i) 9
  have r1 : aI st (some 40) (nI (9 * i) + (1 : Int32)) = some (xs (9 * i + 1)) := at40 h40 hL h9 (j := 1) (by decide)
  have r2 : aI st (some 40) (nI (9 * i) + (2 : Int32)) = some (xs (9 * i + 2)) := at40 h40 hL h9 (j := 2) (by decide)
  have r3 : aI st (some 40) (nI (9 * i) + (3 : Int32)) = some (xs (9 * i + 3)) := at40 h40 hL h9 (j := 3) (by decide)
  obtain ⟨v, s1, e1, o, f⟩ := E_travel (n := n) R (xs (9 * i + 1)) (xs (9 * i + 2)) (xs (9 * i + 3)) hn
  have R1 := R.qc o
  have h41 := (o.2.2.2 40 (by unfold QC; omega)).trans h40
  have t1 : aI s1 (some 40) (nI (9 * i) + (1 : Int32)) = some (xs (9 * i + 1)) := at40 h41 hL h9 (j := 1) (by decide)
  have t2 : aI s1 (some 40) (nI (9 * i) + (2 : Int32)) = some (xs (9 * i + 2)) := at40 h41 hL h9 (j := 2) (by decide)
  have t3 : aI s1 (some 40) (nI (9 * i) + (3 : Int32)) = some (xs (9 * i + 3)) := at40 h41 hL h9 (j := 3) (by decide)
  have e2 := f s1 R1
  refine ⟨s1, ?_, ⟨G, I, R1⟩, h41, by have := o.1; omega, by have := o.2.1; omega⟩
  unfold LB30
  simp only [↓bnd (r1), ↓bnd (r2), ↓bnd (r3), ↓bnd (o64 S), ↓bnd (e1), ↓bnd (t1), ↓bnd (t2), ↓bnd (t3), ↓bnd (o106 R1.sh), ↓bnd (e2), lgc, eq_self, if_true, Option.bind_some, nx]
theorem lb_31 (J : LwJ L xs st i) (h9 : 9 * i + 9 ≤ L) (hL : L ≤ 4608) (hn : 3000 ≤ n) : ∃ st', LB31 n m st (some 40) (some 64) (some 106) (nI (9 * i)) = F_L_law_L18 n m st' (some 40) (some 64) (some 106) (nI (9 * (i + 1))) ∧ LwJ L xs st' (i + 1) := by
  obtain ⟨⟨G, I, R⟩, h40, c1, c2⟩ := J
  have S := R.sh
  have nx : nI (9 * i) + (9 : Int32) = nI (9 * (i + 1)) := nAdd (9 * i) 9
  have r1 : aI st (some 40) (nI (9 * i) + (1 : Int32)) = some (xs (9 * i + 1)) := at40 h40 hL h9 (j := 1) (by decide)
  have r2 : aI st (some 40) (nI (9 * i) + (2 : Int32)) = some (xs (9 * i + 2)) := at40 h40 hL h9 (j := 2) (by decide)
  have r3 : aI st (some 40) (nI (9 * i) + (3 : Int32)) = some (xs (9 * i + 3)) := at40 h40 hL h9 (j := 3) (by decide)
  obtain ⟨q3, hq3, eq3⟩ := bqL (xs (9 * i + 3))
  obtain ⟨v, e1, e2⟩ := E_runs (n := n) R (xs (9 * i + 1)) (xs (9 * i + 2)) q3 hq3 hn
  refine ⟨st, ?_, ⟨G, I, R⟩, h40, by omega, by omega⟩
  unfold LB31
  simp only [↓bnd (r1), ↓bnd (r2), ↓bnd (r3), ↓bnd (eq3), ↓bnd (o64 S), ↓bnd (e1), ↓bnd (o106 S), ↓bnd (e2), lgc, eq_self, if_true, Option.bind_some, nx]
theorem lb_32 (J : LwJ L xs st i) (h9 : 9 * i + 9 ≤ L) (hL : L ≤ 4608) (hn : 3000 ≤ n) : ∃ st', LB32 n m st (some 40) (some 64) (some 106) (nI (9 * i)) = F_L_law_L18 n m st' (some 40) (some 64) (some 106) (nI (9 * (i + 1))) ∧ LwJ L xs st' (i + 1) := by
  obtain ⟨⟨G, I, R⟩, h40, c1, c2⟩ := J
  have S := R.sh
  have nx : nI (9 * i) + (9 : Int32) = nI (9 * (i + 1)) := nAdd (9 * i) 9
  have r1 : aI st (some 40) (nI (9 * i) + (1 : Int32)) = some (xs (9 * i + 1)) := at40 h40 hL h9 (j := 1) (by decide)
  have r2 : aI st (some 40) (nI (9 * i) + (2 : Int32)) = some (xs (9 * i + 2)) := at40 h40 hL h9 (j := 2) (by decide)
  have r3 : aI st (some 40) (nI (9 * i) + (3 : Int32)) = some (xs (9 * i + 3)) := at40 h40 hL h9 (j := 3) (by decide)
  obtain ⟨v, s1, e1, o, f⟩ := E_early (n := n) R (xs (9 * i + 1)) (xs (9 * i + 2)) (xs (9 * i + 3)) hn
  have R1 := R.qc o
  have h41 := (o.2.2.2 40 (by unfold QC; omega)).trans h40
  have t1 : aI s1 (some 40) (nI (9 * i) + (1 : Int32)) = some (xs (9 * i + 1)) := at40 h41 hL h9 (j := 1) (by decide)
  have t2 : aI s1 (some 40) (nI (9 * i) + (2 : Int32)) = some (xs (9 * i + 2)) := at40 h41 hL h9 (j := 2) (by decide)
  have t3 : aI s1 (some 40) (nI (9 * i) + (3 : Int32)) = some (xs (9 * i + 3)) := at40 h41 hL h9 (j := 3) (by decide)
  have e2 := f s1 R1
  refine ⟨s1, ?_, ⟨G, I, R1⟩, h41, by have := o.1; omega, by have := o.2.1; omega⟩
  unfold LB32
  simp only [↓bnd (r1), ↓bnd (r2), ↓bnd (r3), ↓bnd (o64 S), ↓bnd (e1), ↓bnd (t1), ↓bnd (t2), ↓bnd (t3), ↓bnd (o106 R1.sh), ↓bnd (e2), lgc, eq_self, if_true, Option.bind_some, nx]
theorem lb_33 (J : LwJ L xs st i) (h9 : 9 * i + 9 ≤ L) (hL : L ≤ 4608) (hn : 3000 ≤ n) : ∃ st', LB33 n m st (some 40) (some 64) (some 106) (nI (9 * i)) = F_L_law_L18 n m st' (some 40) (some 64) (some 106) (nI (9 * (i + 1))) ∧ LwJ L xs st' (i + 1) := by
  obtain ⟨⟨G, I, R⟩, h40, c1, c2⟩ := J
  have S := R.sh
  have nx : nI (9 * i) + (9 : Int32) = nI (9 * (i + 1)) := nAdd (9 * i) 9
  have r1 : aI st (some 40) (nI (9 * i) + (1 : Int32)) = some (xs (9 * i + 1)) := at40 h40 hL h9 (j := 1) (by decide)
  obtain ⟨v, e1, e2⟩ := E_uneven (n := n) R (xs (9 * i + 1)) hn
  refine ⟨st, ?_, ⟨G, I, R⟩, h40, by omega, by omega⟩
  unfold LB33
  simp only [↓bnd (r1), ↓bnd (o64 S), ↓bnd (e1), ↓bnd (o106 S), ↓bnd (e2), lgc, eq_self, if_true, Option.bind_some, nx]
theorem lb_34 (J : LwJ L xs st i) (h9 : 9 * i + 9 ≤ L) (hL : L ≤ 4608) (hn : 3000 ≤ n) : ∃ st', LB34 n m st (some 40) (some 64) (some 106) (nI (9 * i)) = F_L_law_L18 n m st' (some 40) (some 64) (some 106) (nI (9 * (i + 1))) ∧ LwJ L xs st' (i + 1) := by
  obtain ⟨⟨G, I, R⟩, h40, c1, c2⟩ := J
  have S := R.sh
  have nx : nI (9 * i) + (9 : Int32) = nI (9 * (i + 1)) := nAdd (9 * i) 9
  have r1 : aI st (some 40) (nI (9 * i) + (1 : Int32)) = some (xs (9 * i + 1)) := at40 h40 hL h9 (j := 1) (by decide)
  have r2 : aI st (some 40) (nI (9 * i) + (2 : Int32)) = some (xs (9 * i + 2)) := at40 h40 hL h9 (j := 2) (by decide)
  obtain ⟨v, s1, e1, o, f⟩ := E_turned (n := n) R (xs (9 * i + 1)) (xs (9 * i + 2)) hn
  have R1 := R.qc o
  have h41 := (o.2.2.2 40 (by unfold QC; omega)).trans h40
  have t1 : aI s1 (some 40) (nI (9 * i) + (1 : Int32)) = some (xs (9 * i + 1)) := at40 h41 hL h9 (j := 1) (by decide)
  have t2 : aI s1 (some 40) (nI (9 * i) + (2 : Int32)) = some (xs (9 * i + 2)) := at40 h41 hL h9 (j := 2) (by decide)
  have e2 := f s1 R1
  refine ⟨s1, ?_, ⟨G, I, R1⟩, h41, by have := o.1; omega, by have := o.2.1; omega⟩
  unfold LB34
  simp only [↓bnd (r1), ↓bnd (r2), ↓bnd (o64 S), ↓bnd (e1), ↓bnd (t1), ↓bnd (t2), ↓bnd (o106 R1.sh), ↓bnd (e2), lgc, eq_self, if_true, Option.bind_some, nx]
theorem lb_35 (J : LwJ L xs st i) (h9 : 9 * i + 9 ≤ L) (hL : L ≤ 4608) (hn : 3000 ≤ n) : ∃ st', LB35 n m st (some 40) (some 64) (some 106) (nI (9 * i)) = F_L_law_L18 n m st' (some 40) (some 64) (some 106) (nI (9 * (i + 1))) ∧ LwJ L xs st' (i + 1) := by
  obtain ⟨⟨G, I, R⟩, h40, c1, c2⟩ := J
  have S := R.sh
  have nx : nI (9 * i) + (9 : Int32) = nI (9 * (i + 1)) := nAdd (9 * i) 9
  have r1 : aI st (some 40) (nI (9 * i) + (1 : Int32)) = some (xs (9 * i + 1)) := at40 h40 hL h9 (j := 1) (by decide)
  have r2 : aI st (some 40) (nI (9 * i) + (2 : Int32)) = some (xs (9 * i + 2)) := at40 h40 hL h9 (j := 2) (by decide)
  have r3 : aI st (some 40) (nI (9 * i) + (3 : Int32)) = some (xs (9 * i + 3)) := at40 h40 hL h9 (j := 3) (by decide)
  have r4 : aI st (some 40) (nI (9 * i) + (4 : Int32)) = some (xs (9 * i + 4)) := at40 h40 hL h9 (j := 4) (by decide)
  obtain ⟨v, s1, e1, o, f⟩ := E_like (n := n) R (xs (9 * i + 1)) (xs (9 * i + 2)) (xs (9 * i + 3)) (xs (9 * i + 4)) hn
  have R1 := R.qc o
  have h41 := (o.2.2.2 40 (by unfold QC; omega)).trans h40
  have t1 : aI s1 (some 40) (nI (9 * i) + (1 : Int32)) = some (xs (9 * i + 1)) := at40 h41 hL h9 (j := 1) (by decide)
  have t2 : aI s1 (some 40) (nI (9 * i) + (2 : Int32)) = some (xs (9 * i + 2)) := at40 h41 hL h9 (j := 2) (by decide)
  have t3 : aI s1 (some 40) (nI (9 * i) + (3 : Int32)) = some (xs (9 * i + 3)) := at40 h41 hL h9 (j := 3) (by decide)
  have t4 : aI s1 (some 40) (nI (9 * i) + (4 : Int32)) = some (xs (9 * i + 4)) := at40 h41 hL h9 (j := 4) (by decide)
  have e2 := f s1 R1
  refine ⟨s1, ?_, ⟨G, I, R1⟩, h41, by have := o.1; omega, by have := o.2.1; omega⟩
  unfold LB35
  simp only [↓bnd (r1), ↓bnd (r2), ↓bnd (r3), ↓bnd (r4), ↓bnd (o64 S), ↓bnd (e1), ↓bnd (t1), ↓bnd (t2), ↓bnd (t3), ↓bnd (t4), ↓bnd (o106 R1.sh), ↓bnd (e2), lgc, eq_self, if_true, Option.bind_some, nx]
theorem lb_36 (J : LwJ L xs st i) (h9 : 9 * i + 9 ≤ L) (hL : L ≤ 4608) (hn : 3000 ≤ n) : ∃ st', LB36 n m st (some 40) (some 64) (some 106) (nI (9 * i)) = F_L_law_L18 n m st' (some 40) (some 64) (some 106) (nI (9 * (i + 1))) ∧ LwJ L xs st' (i + 1) := by
  obtain ⟨⟨G, I, R⟩, h40, c1, c2⟩ := J
  have S := R.sh
  have nx : nI (9 * i) + (9 : Int32) = nI (9 * (i + 1)) := nAdd (9 * i) 9
  have r1 : aI st (some 40) (nI (9 * i) + (1 : Int32)) = some (xs (9 * i + 1)) := at40 h40 hL h9 (j := 1) (by decide)
  have r2 : aI st (some 40) (nI (9 * i) + (2 : Int32)) = some (xs (9 * i + 2)) := at40 h40 hL h9 (j := 2) (by decide)
  have r3 : aI st (some 40) (nI (9 * i) + (3 : Int32)) = some (xs (9 * i + 3)) := at40 h40 hL h9 (j := 3) (by decide)
  have r4 : aI st (some 40) (nI (9 * i) + (4 : Int32)) = some (xs (9 * i + 4)) := at40 h40 hL h9 (j := 4) (by decide)
  obtain ⟨v, s1, e1, o, f⟩ := E_single (n := n) R (xs (9 * i + 1)) (xs (9 * i + 2)) (xs (9 * i + 3)) (xs (9 * i + 4)) hn
  have R1 := R.qc o
  have h41 := (o.2.2.2 40 (by unfold QC; omega)).trans h40
  have t1 : aI s1 (some 40) (nI (9 * i) + (1 : Int32)) = some (xs (9 * i + 1)) := at40 h41 hL h9 (j := 1) (by decide)
  have t2 : aI s1 (some 40) (nI (9 * i) + (2 : Int32)) = some (xs (9 * i + 2)) := at40 h41 hL h9 (j := 2) (by decide)
  have t3 : aI s1 (some 40) (nI (9 * i) + (3 : Int32)) = some (xs (9 * i + 3)) := at40 h41 hL h9 (j := 3) (by decide)
  have t4 : aI s1 (some 40) (nI (9 * i) + (4 : Int32)) = some (xs (9 * i + 4)) := at40 h41 hL h9 (j := 4) (by decide)
  obtain ⟨s3, e2, o3, h15⟩ := f s1 R1
  refine ⟨s3, ?_, ⟨G, I, R1.qm o3 h15⟩, (o3.2.2.2 40 (by unfold QM; omega)).trans h41, by have := o.1; have := o3.1; omega, by have := o.2.1; have := o3.2.1; omega⟩
  unfold LB36
  simp only [↓bnd (r1), ↓bnd (r2), ↓bnd (r3), ↓bnd (r4), ↓bnd (o64 S), ↓bnd (e1), ↓bnd (t1), ↓bnd (t2), ↓bnd (t3), ↓bnd (t4), ↓bnd (o106 R1.sh), ↓bnd (e2), lgc, eq_self, if_true, Option.bind_some, nx]
theorem lb_37 (J : LwJ L xs st i) (h9 : 9 * i + 9 ≤ L) (hL : L ≤ 4608) (hn : 3000 ≤ n) : ∃ st', LB37 n m st (some 40) (some 64) (some 106) (nI (9 * i)) = F_L_law_L18 n m st' (some 40) (some 64) (some 106) (nI (9 * (i + 1))) ∧ LwJ L xs st' (i + 1) := by
  obtain ⟨⟨G, I, R⟩, h40, c1, c2⟩ := J
  have S := R.sh
  have nx : nI (9 * i) + (9 : Int32) = nI (9 * (i + 1)) := nAdd (9 * i) 9
  have r1 : aI st (some 40) (nI (9 * i) + (1 : Int32)) = some (xs (9 * i + 1)) := at40 h40 hL h9 (j := 1) (by decide)
  have r2 : aI st (some 40) (nI (9 * i) + (2 : Int32)) = some (xs (9 * i + 2)) := at40 h40 hL h9 (j := 2) (by decide)
  have r3 : aI st (some 40) (nI (9 * i) + (3 : Int32)) = some (xs (9 * i + 3)) := at40 h40 hL h9 (j := 3) (by decide)
  have r4 : aI st (some 40) (nI (9 * i) + (4 : Int32)) = some (xs (9 * i + 4)) := at40 h40 hL h9 (j := 4) (by decide)
  have r5 : aI st (some 40) (nI (9 * i) + (5 : Int32)) = some (xs (9 * i + 5)) := at40 h40 hL h9 (j := 5) (by decide)
  have r6 : aI st (some 40) (nI (9 * i) + (6 : Int32)) = some (xs (9 * i + 6)) := at40 h40 hL h9 (j := 6) (by decide)
  obtain ⟨q6, hq6, eq6⟩ := bqL (xs (9 * i + 6))
  obtain ⟨v, s1, e1, o, f⟩ := E_felt (n := n) R (xs (9 * i + 1)) (xs (9 * i + 2)) (xs (9 * i + 3)) (xs (9 * i + 4)) (xs (9 * i + 5)) (nI q6) hn
  have R1 := R.qc o
  have h41 := (o.2.2.2 40 (by unfold QC; omega)).trans h40
  have t1 : aI s1 (some 40) (nI (9 * i) + (1 : Int32)) = some (xs (9 * i + 1)) := at40 h41 hL h9 (j := 1) (by decide)
  have t2 : aI s1 (some 40) (nI (9 * i) + (2 : Int32)) = some (xs (9 * i + 2)) := at40 h41 hL h9 (j := 2) (by decide)
  have t3 : aI s1 (some 40) (nI (9 * i) + (3 : Int32)) = some (xs (9 * i + 3)) := at40 h41 hL h9 (j := 3) (by decide)
  have t4 : aI s1 (some 40) (nI (9 * i) + (4 : Int32)) = some (xs (9 * i + 4)) := at40 h41 hL h9 (j := 4) (by decide)
  have t5 : aI s1 (some 40) (nI (9 * i) + (5 : Int32)) = some (xs (9 * i + 5)) := at40 h41 hL h9 (j := 5) (by decide)
  have t6 : aI s1 (some 40) (nI (9 * i) + (6 : Int32)) = some (xs (9 * i + 6)) := at40 h41 hL h9 (j := 6) (by decide)
  obtain ⟨s3, e2, o3, h15⟩ := f s1 R1
  refine ⟨s3, ?_, ⟨G, I, R1.qm o3 h15⟩, (o3.2.2.2 40 (by unfold QM; omega)).trans h41, by have := o.1; have := o3.1; omega, by have := o.2.1; have := o3.2.1; omega⟩
  unfold LB37
  simp only [↓bnd (r1), ↓bnd (r2), ↓bnd (r3), ↓bnd (r4), ↓bnd (r5), ↓bnd (r6), ↓bnd (eq6), ↓bnd (o64 S), ↓bnd (e1), ↓bnd (t1), ↓bnd (t2), ↓bnd (t3), ↓bnd (t4), ↓bnd (t5), ↓bnd (t6), ↓bnd (eq6), ↓bnd (o106 R1.sh), ↓bnd (e2), lgc, eq_self, if_true, Option.bind_some, nx]
theorem lb_38 (J : LwJ L xs st i) (h9 : 9 * i + 9 ≤ L) (hL : L ≤ 4608) (hn : 3000 ≤ n) : ∃ st', LB38 n m st (some 40) (some 64) (some 106) (nI (9 * i)) = F_L_law_L18 n m st' (some 40) (some 64) (some 106) (nI (9 * (i + 1))) ∧ LwJ L xs st' (i + 1) := by
  obtain ⟨⟨G, I, R⟩, h40, c1, c2⟩ := J
  have S := R.sh
  have nx : nI (9 * i) + (9 : Int32) = nI (9 * (i + 1)) := nAdd (9 * i) 9
  have r1 : aI st (some 40) (nI (9 * i) + (1 : Int32)) = some (xs (9 * i + 1)) := at40 h40 hL h9 (j := 1) (by decide)
  have r2 : aI st (some 40) (nI (9 * i) + (2 : Int32)) = some (xs (9 * i + 2)) := at40 h40 hL h9 (j := 2) (by decide)
  have r3 : aI st (some 40) (nI (9 * i) + (3 : Int32)) = some (xs (9 * i + 3)) := at40 h40 hL h9 (j := 3) (by decide)
  have r4 : aI st (some 40) (nI (9 * i) + (4 : Int32)) = some (xs (9 * i + 4)) := at40 h40 hL h9 (j := 4) (by decide)
  obtain ⟨v, s1, e1, o, f⟩ := E_rule (n := n) R (xs (9 * i + 1)) (xs (9 * i + 2)) (xs (9 * i + 3)) (xs (9 * i + 4)) hn
  have R1 := R.qc o
  have h41 := (o.2.2.2 40 (by unfold QC; omega)).trans h40
  have t1 : aI s1 (some 40) (nI (9 * i) + (1 : Int32)) = some (xs (9 * i + 1)) := at40 h41 hL h9 (j := 1) (by decide)
  have t2 : aI s1 (some 40) (nI (9 * i) + (2 : Int32)) = some (xs (9 * i + 2)) := at40 h41 hL h9 (j := 2) (by decide)
  have t3 : aI s1 (some 40) (nI (9 * i) + (3 : Int32)) = some (xs (9 * i + 3)) := at40 h41 hL h9 (j := 3) (by decide)
  have t4 : aI s1 (some 40) (nI (9 * i) + (4 : Int32)) = some (xs (9 * i + 4)) := at40 h41 hL h9 (j := 4) (by decide)
  have e2 := f s1 R1
  refine ⟨s1, ?_, ⟨G, I, R1⟩, h41, by have := o.1; omega, by have := o.2.1; omega⟩
  unfold LB38
  simp only [↓bnd (r1), ↓bnd (r2), ↓bnd (r3), ↓bnd (r4), ↓bnd (o64 S), ↓bnd (e1), ↓bnd (t1), ↓bnd (t2), ↓bnd (t3), ↓bnd (t4), ↓bnd (o106 R1.sh), ↓bnd (e2), lgc, eq_self, if_true, Option.bind_some, nx]
theorem lb_39 (J : LwJ L xs st i) (h9 : 9 * i + 9 ≤ L) (hL : L ≤ 4608) (hn : 3000 ≤ n) : ∃ st', LB39 n m st (some 40) (some 64) (some 106) (nI (9 * i)) = F_L_law_L18 n m st' (some 40) (some 64) (some 106) (nI (9 * (i + 1))) ∧ LwJ L xs st' (i + 1) := by
  obtain ⟨⟨G, I, R⟩, h40, c1, c2⟩ := J
  have S := R.sh
  have nx : nI (9 * i) + (9 : Int32) = nI (9 * (i + 1)) := nAdd (9 * i) 9
  have r1 : aI st (some 40) (nI (9 * i) + (1 : Int32)) = some (xs (9 * i + 1)) := at40 h40 hL h9 (j := 1) (by decide)
  have r2 : aI st (some 40) (nI (9 * i) + (2 : Int32)) = some (xs (9 * i + 2)) := at40 h40 hL h9 (j := 2) (by decide)
  have r3 : aI st (some 40) (nI (9 * i) + (3 : Int32)) = some (xs (9 * i + 3)) := at40 h40 hL h9 (j := 3) (by decide)
  have r4 : aI st (some 40) (nI (9 * i) + (4 : Int32)) = some (xs (9 * i + 4)) := at40 h40 hL h9 (j := 4) (by decide)
  obtain ⟨v, s1, e1, o, f⟩ := E_less (n := n) R (xs (9 * i + 1)) (xs (9 * i + 2)) (xs (9 * i + 3)) (xs (9 * i + 4)) hn
  have R1 := R.qc o
  have h41 := (o.2.2.2 40 (by unfold QC; omega)).trans h40
  have t1 : aI s1 (some 40) (nI (9 * i) + (1 : Int32)) = some (xs (9 * i + 1)) := at40 h41 hL h9 (j := 1) (by decide)
  have t2 : aI s1 (some 40) (nI (9 * i) + (2 : Int32)) = some (xs (9 * i + 2)) := at40 h41 hL h9 (j := 2) (by decide)
  have t3 : aI s1 (some 40) (nI (9 * i) + (3 : Int32)) = some (xs (9 * i + 3)) := at40 h41 hL h9 (j := 3) (by decide)
  have t4 : aI s1 (some 40) (nI (9 * i) + (4 : Int32)) = some (xs (9 * i + 4)) := at40 h41 hL h9 (j := 4) (by decide)
  obtain ⟨s3, e2, o3, h15⟩ := f s1 R1
  refine ⟨s3, ?_, ⟨G, I, R1.qm o3 h15⟩, (o3.2.2.2 40 (by unfold QM; omega)).trans h41, by have := o.1; have := o3.1; omega, by have := o.2.1; have := o3.2.1; omega⟩
  unfold LB39
  simp only [↓bnd (r1), ↓bnd (r2), ↓bnd (r3), ↓bnd (r4), ↓bnd (o64 S), ↓bnd (e1), ↓bnd (t1), ↓bnd (t2), ↓bnd (t3), ↓bnd (t4), ↓bnd (o106 R1.sh), ↓bnd (e2), lgc, eq_self, if_true, Option.bind_some, nx]
theorem lb_40 (J : LwJ L xs st i) (h9 : 9 * i + 9 ≤ L) (hL : L ≤ 4608) (hn : 3000 ≤ n) : ∃ st', LB40 n m st (some 40) (some 64) (some 106) (nI (9 * i)) = F_L_law_L18 n m st' (some 40) (some 64) (some 106) (nI (9 * (i + 1))) ∧ LwJ L xs st' (i + 1) := by
  obtain ⟨⟨G, I, R⟩, h40, c1, c2⟩ := J
  have S := R.sh
  have nx : nI (9 * i) + (9 : Int32) = nI (9 * (i + 1)) := nAdd (9 * i) 9
  have r1 : aI st (some 40) (nI (9 * i) + (1 : Int32)) = some (xs (9 * i + 1)) := at40 h40 hL h9 (j := 1) (by decide)
  have r2 : aI st (some 40) (nI (9 * i) + (2 : Int32)) = some (xs (9 * i + 2)) := at40 h40 hL h9 (j := 2) (by decide)
  have r3 : aI st (some 40) (nI (9 * i) + (3 : Int32)) = some (xs (9 * i + 3)) := at40 h40 hL h9 (j := 3) (by decide)
  have r4 : aI st (some 40) (nI (9 * i) + (4 : Int32)) = some (xs (9 * i + 4)) := at40 h40 hL h9 (j := 4) (by decide)
  have r5 : aI st (some 40) (nI (9 * i) + (5 : Int32)) = some (xs (9 * i + 5)) := at40 h40 hL h9 (j := 5) (by decide)
  obtain ⟨v, s1, e1, o, f⟩ := E_bet (n := n) R (xs (9 * i + 1)) (xs (9 * i + 2)) (xs (9 * i + 3)) (xs (9 * i + 4)) (xs (9 * i + 5)) hn
  have R1 := R.qc o
  have h41 := (o.2.2.2 40 (by unfold QC; omega)).trans h40
  have t1 : aI s1 (some 40) (nI (9 * i) + (1 : Int32)) = some (xs (9 * i + 1)) := at40 h41 hL h9 (j := 1) (by decide)
  have t2 : aI s1 (some 40) (nI (9 * i) + (2 : Int32)) = some (xs (9 * i + 2)) := at40 h41 hL h9 (j := 2) (by decide)
  have t3 : aI s1 (some 40) (nI (9 * i) + (3 : Int32)) = some (xs (9 * i + 3)) := at40 h41 hL h9 (j := 3) (by decide)
  have t4 : aI s1 (some 40) (nI (9 * i) + (4 : Int32)) = some (xs (9 * i + 4)) := at40 h41 hL h9 (j := 4) (by decide)
  have t5 : aI s1 (some 40) (nI (9 * i) + (5 : Int32)) = some (xs (9 * i + 5)) := at40 h41 hL h9 (j := 5) (by decide)
  have e2 := f s1 R1
  refine ⟨s1, ?_, ⟨G, I, R1⟩, h41, by have := o.1; omega, by have := o.2.1; omega⟩
  unfold LB40
  simp only [↓bnd (r1), ↓bnd (r2), ↓bnd (r3), ↓bnd (r4), ↓bnd (r5), ↓bnd (o64 S), ↓bnd (e1), ↓bnd (t1), ↓bnd (t2), ↓bnd (t3), ↓bnd (t4), ↓bnd (t5), ↓bnd (o106 R1.sh), ↓bnd (e2), lgc, eq_self, if_true, Option.bind_some, nx]
theorem lb_41 (J : LwJ L xs st i) (h9 : 9 * i + 9 ≤ L) (hL : L ≤ 4608) (hn : 3000 ≤ n) : ∃ st', LB41 n m st (some 40) (some 64) (some 106) (nI (9 * i)) = F_L_law_L18 n m st' (some 40) (some 64) (some 106) (nI (9 * (i + 1))) ∧ LwJ L xs st' (i + 1) := by
  obtain ⟨⟨G, I, R⟩, h40, c1, c2⟩ := J
  have S := R.sh
  have nx : nI (9 * i) + (9 : Int32) = nI (9 * (i + 1)) := nAdd (9 * i) 9
  have r1 : aI st (some 40) (nI (9 * i) + (1 : Int32)) = some (xs (9 * i + 1)) := at40 h40 hL h9 (j := 1) (by decide)
  have r2 : aI st (some 40) (nI (9 * i) + (2 : Int32)) = some (xs (9 * i + 2)) := at40 h40 hL h9 (j := 2) (by decide)
  have r3 : aI st (some 40) (nI (9 * i) + (3 : Int32)) = some (xs (9 * i + 3)) := at40 h40 hL h9 (j := 3) (by decide)
  have r4 : aI st (some 40) (nI (9 * i) + (4 : Int32)) = some (xs (9 * i + 4)) := at40 h40 hL h9 (j := 4) (by decide)
  obtain ⟨v, s1, e1, o, f⟩ := E_best (n := n) R (xs (9 * i + 1)) (xs (9 * i + 2)) (xs (9 * i + 3)) (xs (9 * i + 4)) hn
  have R1 := R.qc o
  have h41 := (o.2.2.2 40 (by unfold QC; omega)).trans h40
  have t1 : aI s1 (some 40) (nI (9 * i) + (1 : Int32)) = some (xs (9 * i + 1)) := at40 h41 hL h9 (j := 1) (by decide)
  have t2 : aI s1 (some 40) (nI (9 * i) + (2 : Int32)) = some (xs (9 * i + 2)) := at40 h41 hL h9 (j := 2) (by decide)
  have t3 : aI s1 (some 40) (nI (9 * i) + (3 : Int32)) = some (xs (9 * i + 3)) := at40 h41 hL h9 (j := 3) (by decide)
  have t4 : aI s1 (some 40) (nI (9 * i) + (4 : Int32)) = some (xs (9 * i + 4)) := at40 h41 hL h9 (j := 4) (by decide)
  have e2 := f s1 R1
  refine ⟨s1, ?_, ⟨G, I, R1⟩, h41, by have := o.1; omega, by have := o.2.1; omega⟩
  unfold LB41
  simp only [↓bnd (r1), ↓bnd (r2), ↓bnd (r3), ↓bnd (r4), ↓bnd (o64 S), ↓bnd (e1), ↓bnd (t1), ↓bnd (t2), ↓bnd (t3), ↓bnd (t4), ↓bnd (o106 R1.sh), ↓bnd (e2), lgc, eq_self, if_true, Option.bind_some, nx]
theorem lb_42 (J : LwJ L xs st i) (h9 : 9 * i + 9 ≤ L) (hL : L ≤ 4608) (hn : 3000 ≤ n) : ∃ st', LB42 n m st (some 40) (some 64) (some 106) (nI (9 * i)) = F_L_law_L18 n m st' (some 40) (some 64) (some 106) (nI (9 * (i + 1))) ∧ LwJ L xs st' (i + 1) := by
  obtain ⟨⟨G, I, R⟩, h40, c1, c2⟩ := J
  have S := R.sh
  have nx : nI (9 * i) + (9 : Int32) = nI (9 * (i + 1)) := nAdd (9 * i) 9
  have r1 : aI st (some 40) (nI (9 * i) + (1 : Int32)) = some (xs (9 * i + 1)) := at40 h40 hL h9 (j := 1) (by decide)
  have r2 : aI st (some 40) (nI (9 * i) + (2 : Int32)) = some (xs (9 * i + 2)) := at40 h40 hL h9 (j := 2) (by decide)
  have r3 : aI st (some 40) (nI (9 * i) + (3 : Int32)) = some (xs (9 * i + 3)) := at40 h40 hL h9 (j := 3) (by decide)
  have r4 : aI st (some 40) (nI (9 * i) + (4 : Int32)) = some (xs (9 * i + 4)) := at40 h40 hL h9 (j := 4) (by decide)
  obtain ⟨v, s1, e1, o, f⟩ := E_fair (n := n) R (xs (9 * i + 1)) (xs (9 * i + 2)) (xs (9 * i + 3)) (xs (9 * i + 4)) hn
  have R1 := R.qc o
  have h41 := (o.2.2.2 40 (by unfold QC; omega)).trans h40
  have t1 : aI s1 (some 40) (nI (9 * i) + (1 : Int32)) = some (xs (9 * i + 1)) := at40 h41 hL h9 (j := 1) (by decide)
  have t2 : aI s1 (some 40) (nI (9 * i) + (2 : Int32)) = some (xs (9 * i + 2)) := at40 h41 hL h9 (j := 2) (by decide)
  have t3 : aI s1 (some 40) (nI (9 * i) + (3 : Int32)) = some (xs (9 * i + 3)) := at40 h41 hL h9 (j := 3) (by decide)
  have t4 : aI s1 (some 40) (nI (9 * i) + (4 : Int32)) = some (xs (9 * i + 4)) := at40 h41 hL h9 (j := 4) (by decide)
  have e2 := f s1 R1
  refine ⟨s1, ?_, ⟨G, I, R1⟩, h41, by have := o.1; omega, by have := o.2.1; omega⟩
  unfold LB42
  simp only [↓bnd (r1), ↓bnd (r2), ↓bnd (r3), ↓bnd (r4), ↓bnd (o64 S), ↓bnd (e1), ↓bnd (t1), ↓bnd (t2), ↓bnd (t3), ↓bnd (t4), ↓bnd (o106 R1.sh), ↓bnd (e2), lgc, eq_self, if_true, Option.bind_some, nx]
theorem lb_43 (J : LwJ L xs st i) (h9 : 9 * i + 9 ≤ L) (hL : L ≤ 4608) (hn : 3000 ≤ n) : ∃ st', LB43 n m st (some 40) (some 64) (some 106) (nI (9 * i)) = F_L_law_L18 n m st' (some 40) (some 64) (some 106) (nI (9 * (i + 1))) ∧ LwJ L xs st' (i + 1) := by
  obtain ⟨⟨G, I, R⟩, h40, c1, c2⟩ := J
  have S := R.sh
  have nx : nI (9 * i) + (9 : Int32) = nI (9 * (i + 1)) := nAdd (9 * i) 9
  have r1 : aI st (some 40) (nI (9 * i) + (1 : Int32)) = some (xs (9 * i + 1)) := at40 h40 hL h9 (j := 1) (by decide)
  obtain ⟨v, e1, e2⟩ := E_count (n := n) R (xs (9 * i + 1))
  refine ⟨st, ?_, ⟨G, I, R⟩, h40, by omega, by omega⟩
  unfold LB43
  simp only [↓bnd (r1), ↓bnd (o64 S), ↓bnd (e1), ↓bnd (o106 S), ↓bnd (e2), lgc, eq_self, if_true, Option.bind_some, nx]
theorem lb_44 (J : LwJ L xs st i) (h9 : 9 * i + 9 ≤ L) (hL : L ≤ 4608) (hn : 3000 ≤ n) : ∃ st', LB44 n m st (some 40) (some 64) (some 106) (nI (9 * i)) = F_L_law_L18 n m st' (some 40) (some 64) (some 106) (nI (9 * (i + 1))) ∧ LwJ L xs st' (i + 1) := by
  obtain ⟨⟨G, I, R⟩, h40, c1, c2⟩ := J
  have S := R.sh
  have nx : nI (9 * i) + (9 : Int32) = nI (9 * (i + 1)) := nAdd (9 * i) 9
  have r1 : aI st (some 40) (nI (9 * i) + (1 : Int32)) = some (xs (9 * i + 1)) := at40 h40 hL h9 (j := 1) (by decide)
  obtain ⟨v, s1, G1, I1, e1, K, kf, n1, n2, n3, f⟩ := E_image (n := n) R (xs (9 * i + 1)) hn
  have S1 := K.1
  have h41 := (kf 40 (Or.inl (by decide)) (by decide)).trans h40
  have t1 : aI s1 (some 40) (nI (9 * i) + (1 : Int32)) = some (xs (9 * i + 1)) := at40 h41 hL h9 (j := 1) (by decide)
  obtain ⟨s3, e2, N3, o3⟩ := f s1 (R.mdl.kf kf S1)
  dsimp only at e1 e2
  refine ⟨s3, ?_, ⟨G1, I1, (K.nf o3).and N3⟩, (o3.2.2.2 40 (by unfold QN; omega)).trans h41, by have := o3.1; omega, by have := o3.2.1; omega⟩
  unfold LB44
  simp only [↓bnd (r1), ↓bnd (o64 S), ↓bnd (e1), ↓bnd (t1), ↓bnd (o106 S1), ↓bnd (e2), lgc, eq_self, if_true, Option.bind_some, nx]
theorem lb_45 (J : LwJ L xs st i) (h9 : 9 * i + 9 ≤ L) (hL : L ≤ 4608) (hn : 3000 ≤ n) : ∃ st', LB45 n m st (some 40) (some 64) (some 106) (nI (9 * i)) = F_L_law_L18 n m st' (some 40) (some 64) (some 106) (nI (9 * (i + 1))) ∧ LwJ L xs st' (i + 1) := by
  obtain ⟨⟨G, I, R⟩, h40, c1, c2⟩ := J
  have S := R.sh
  have nx : nI (9 * i) + (9 : Int32) = nI (9 * (i + 1)) := nAdd (9 * i) 9
  have r1 : aI st (some 40) (nI (9 * i) + (1 : Int32)) = some (xs (9 * i + 1)) := at40 h40 hL h9 (j := 1) (by decide)
  obtain ⟨v, s1, G1, I1, e1, K, kf, n1, n2, n3, f⟩ := E_again (n := n) R (xs (9 * i + 1)) hn
  have S1 := K.1
  have h41 := (kf 40 (Or.inl (by decide)) (by decide)).trans h40
  have t1 : aI s1 (some 40) (nI (9 * i) + (1 : Int32)) = some (xs (9 * i + 1)) := at40 h41 hL h9 (j := 1) (by decide)
  obtain ⟨s3, e2, N3, o3⟩ := f s1 (R.mdl.kf kf S1)
  dsimp only at e1 e2
  refine ⟨s3, ?_, ⟨G1, I1, (K.nf o3).and N3⟩, (o3.2.2.2 40 (by unfold QN; omega)).trans h41, by have := o3.1; omega, by have := o3.2.1; omega⟩
  unfold LB45
  simp only [↓bnd (r1), ↓bnd (o64 S), ↓bnd (e1), ↓bnd (t1), ↓bnd (o106 S1), ↓bnd (e2), lgc, eq_self, if_true, Option.bind_some, nx]
theorem lb_46 (J : LwJ L xs st i) (h9 : 9 * i + 9 ≤ L) (hL : L ≤ 4608) (hn : 3000 ≤ n) : ∃ st', LB46 n m st (some 40) (some 64) (some 106) (nI (9 * i)) = F_L_law_L18 n m st' (some 40) (some 64) (some 106) (nI (9 * (i + 1))) ∧ LwJ L xs st' (i + 1) := by
  obtain ⟨⟨G, I, R⟩, h40, c1, c2⟩ := J
  have S := R.sh
  have nx : nI (9 * i) + (9 : Int32) = nI (9 * (i + 1)) := nAdd (9 * i) 9
  refine ⟨st, ?_, ⟨G, I, R⟩, h40, by omega, by omega⟩
  unfold LB46
  simp only [Option.bind_some, nx]
theorem lb_step (J : LwJ L xs st i) (h9 : 9 * i + 9 ≤ L) (hL : L ≤ 4608) (hn : 3000 ≤ n) : ∃ st', F_L_law_L18 n (m + 1) st (some 40) (some 64) (some 106) (nI (9 * i)) = F_L_law_L18 n m st' (some 40) (some 64) (some 106) (nI (9 * (i + 1))) ∧ LwJ L xs st' (i + 1) := by
  have h40 := J.2.1
  have r0 : aI st (some 40) (nI (9 * i)) = some (xs (9 * i)) := by
    have : aI st (some 40) (nI (9 * i) + nI 0) = _ := at40 h40 hL h9 (j := 0) (by decide)
    rw [nAdd] at this
    exact this
  have lt : (nI L - (9 : Int32) < nI (9 * i)) = False := by
    rw [show nI L - (9 : Int32) = nI (L - 9) from nSub (b := 9) (by omega), nLt (by omega) (by omega)]
    exact eq_false (by omega)
  rw [L18_eq]
  simp only [↓bnd (aN40 h40), lt, if_false, ↓bnd (r0)]
  generalize (xs (9 * i) &&& (63 : Int32)) = c
  by_cases c0 : c = (0 : Int32)
  · rw [if_pos c0]; exact lb_0 J h9 hL hn
  rw [if_neg c0]
  by_cases c1 : c = (1 : Int32)
  · rw [if_pos c1]; exact lb_1 J h9 hL hn
  rw [if_neg c1]
  by_cases c2 : c = (2 : Int32)
  · rw [if_pos c2]; exact lb_2 J h9 hL hn
  rw [if_neg c2]
  by_cases c3 : c = (3 : Int32)
  · rw [if_pos c3]; exact lb_3 J h9 hL hn
  rw [if_neg c3]
  by_cases c4 : c = (4 : Int32)
  · rw [if_pos c4]; exact lb_4 J h9 hL hn
  rw [if_neg c4]
  by_cases c5 : c = (5 : Int32)
  · rw [if_pos c5]; exact lb_5 J h9 hL hn
  rw [if_neg c5]
  by_cases c6 : c = (6 : Int32)
  · rw [if_pos c6]; exact lb_6 J h9 hL hn
  rw [if_neg c6]
  by_cases c7 : c = (7 : Int32)
  · rw [if_pos c7]; exact lb_7 J h9 hL hn
  rw [if_neg c7]
  by_cases c8 : c = (8 : Int32)
  · rw [if_pos c8]; exact lb_8 J h9 hL hn
  rw [if_neg c8]
  by_cases c9 : c = (9 : Int32)
  · rw [if_pos c9]; exact lb_9 J h9 hL hn
  rw [if_neg c9]
  by_cases c10 : c = (10 : Int32)
  · rw [if_pos c10]; exact lb_10 J h9 hL hn
  rw [if_neg c10]
  by_cases c11 : c = (11 : Int32)
  · rw [if_pos c11]; exact lb_11 J h9 hL hn
  rw [if_neg c11]
  by_cases c12 : c = (12 : Int32)
  · rw [if_pos c12]; exact lb_12 J h9 hL hn
  rw [if_neg c12]
  by_cases c13 : c = (13 : Int32)
  · rw [if_pos c13]; exact lb_13 J h9 hL hn
  rw [if_neg c13]
  by_cases c14 : c = (14 : Int32)
  · rw [if_pos c14]; exact lb_14 J h9 hL hn
  rw [if_neg c14]
  by_cases c15 : c = (15 : Int32)
  · rw [if_pos c15]; exact lb_15 J h9 hL hn
  rw [if_neg c15]
  by_cases c16 : c = (16 : Int32)
  · rw [if_pos c16]; exact lb_16 J h9 hL hn
  rw [if_neg c16]
  by_cases c17 : c = (17 : Int32)
  · rw [if_pos c17]; exact lb_17 J h9 hL hn
  rw [if_neg c17]
  by_cases c18 : c = (18 : Int32)
  · rw [if_pos c18]; exact lb_18 J h9 hL hn
  rw [if_neg c18]
  by_cases c19 : c = (19 : Int32)
  · rw [if_pos c19]; exact lb_19 J h9 hL hn
  rw [if_neg c19]
  by_cases c20 : c = (20 : Int32)
  · rw [if_pos c20]; exact lb_20 J h9 hL hn
  rw [if_neg c20]
  by_cases c21 : c = (21 : Int32)
  · rw [if_pos c21]; exact lb_21 J h9 hL hn
  rw [if_neg c21]
  by_cases c22 : c = (22 : Int32)
  · rw [if_pos c22]; exact lb_22 J h9 hL hn
  rw [if_neg c22]
  by_cases c23 : c = (23 : Int32)
  · rw [if_pos c23]; exact lb_23 J h9 hL hn
  rw [if_neg c23]
  by_cases c24 : c = (24 : Int32)
  · rw [if_pos c24]; exact lb_24 J h9 hL hn
  rw [if_neg c24]
  by_cases c25 : c = (25 : Int32)
  · rw [if_pos c25]; exact lb_25 J h9 hL hn
  rw [if_neg c25]
  by_cases c26 : c = (26 : Int32)
  · rw [if_pos c26]; exact lb_26 J h9 hL hn
  rw [if_neg c26]
  by_cases c27 : c = (27 : Int32)
  · rw [if_pos c27]; exact lb_27 J h9 hL hn
  rw [if_neg c27]
  by_cases c28 : c = (28 : Int32)
  · rw [if_pos c28]; exact lb_28 J h9 hL hn
  rw [if_neg c28]
  by_cases c29 : c = (29 : Int32)
  · rw [if_pos c29]; exact lb_29 J h9 hL hn
  rw [if_neg c29]
  by_cases c30 : c = (30 : Int32)
  · rw [if_pos c30]; exact lb_30 J h9 hL hn
  rw [if_neg c30]
  by_cases c31 : c = (31 : Int32)
  · rw [if_pos c31]; exact lb_31 J h9 hL hn
  rw [if_neg c31]
  by_cases c32 : c = (32 : Int32)
  · rw [if_pos c32]; exact lb_32 J h9 hL hn
  rw [if_neg c32]
  by_cases c33 : c = (33 : Int32)
  · rw [if_pos c33]; exact lb_33 J h9 hL hn
  rw [if_neg c33]
  by_cases c34 : c = (34 : Int32)
  · rw [if_pos c34]; exact lb_34 J h9 hL hn
  rw [if_neg c34]
  by_cases c35 : c = (35 : Int32)
  · rw [if_pos c35]; exact lb_35 J h9 hL hn
  rw [if_neg c35]
  by_cases c36 : c = (36 : Int32)
  · rw [if_pos c36]; exact lb_36 J h9 hL hn
  rw [if_neg c36]
  by_cases c37 : c = (37 : Int32)
  · rw [if_pos c37]; exact lb_37 J h9 hL hn
  rw [if_neg c37]
  by_cases c38 : c = (38 : Int32)
  · rw [if_pos c38]; exact lb_38 J h9 hL hn
  rw [if_neg c38]
  by_cases c39 : c = (39 : Int32)
  · rw [if_pos c39]; exact lb_39 J h9 hL hn
  rw [if_neg c39]
  by_cases c40 : c = (40 : Int32)
  · rw [if_pos c40]; exact lb_40 J h9 hL hn
  rw [if_neg c40]
  by_cases c41 : c = (41 : Int32)
  · rw [if_pos c41]; exact lb_41 J h9 hL hn
  rw [if_neg c41]
  by_cases c42 : c = (42 : Int32)
  · rw [if_pos c42]; exact lb_42 J h9 hL hn
  rw [if_neg c42]
  by_cases c43 : c = (43 : Int32)
  · rw [if_pos c43]; exact lb_43 J h9 hL hn
  rw [if_neg c43]
  by_cases c44 : c = (44 : Int32)
  · rw [if_pos c44]; exact lb_44 J h9 hL hn
  rw [if_neg c44]
  by_cases c45 : c = (45 : Int32)
  · rw [if_pos c45]; exact lb_45 J h9 hL hn
  rw [if_neg c45]
  exact lb_46 J h9 hL hn
theorem ih_z (hL : L ≤ 4608) (hn : 3000 ≤ n) (h1 : L < 9 * i + 9) (h0 : 9 * i ≤ L) (J : LwJ L xs st i) : ∃ st', F_L_law_L18 n (m + 1) st (some 40) (some 64) (some 106) (nI (9 * i)) = some (1, st') ∧ st'.1 ≤ 600000 ∧ st'.2.1 ≤ 7302250 := by
  refine ⟨st, ?_, by have := J.2.2.1; omega, by have := J.2.2.2; omega⟩
  have lt : (nI L - (9 : Int32) < nI (9 * i)) = True := by
    have e : nI L - (9 : Int32) = zI ((L : Int) - 9) := nSubZ L 9
    rw [e, nZ, zLt (by omega) (by omega) (by omega) (by omega)]
    exact eq_true (by omega)
  rw [L18_eq]
  simp only [↓bnd (aN40 J.2.1), lt, if_true, rz1, Option.bind_some]
theorem lb_all (hL : L ≤ 4608) (hn : 3000 ≤ n) : ∀ d i st, L < 9 * i + 9 * d + 9 → 9 * i ≤ L → LwJ L xs st i → ∀ m, d < m → ∃ st', F_L_law_L18 n m st (some 40) (some 64) (some 106) (nI (9 * i)) = some (1, st') ∧ st'.1 ≤ 600000 ∧ st'.2.1 ≤ 7302250 := by
  intro d
  induction d with
  | zero =>
    intro i st h1 h0 J m hm
    obtain ⟨m, rfl⟩ : ∃ j, m = j + 1 := ⟨m - 1, by omega⟩
    exact ih_z hL hn (by omega) h0 J
  | succ d ih =>
    intro i st h1 h0 J m hm
    obtain ⟨m, rfl⟩ : ∃ j, m = j + 1 := ⟨m - 1, by omega⟩
    by_cases h9 : 9 * i + 9 ≤ L
    · obtain ⟨s1, e1, J1⟩ := lb_step (m := m) J h9 hL hn
      rw [e1]
      exact ih (i + 1) s1 (by omega) (by omega) J1 m (by omega)
    · exact ih_z hL hn (by omega) h0 J
end LW
