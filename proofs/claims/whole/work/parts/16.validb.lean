set_option maxRecDepth 100000 in
theorem px_v100 : px_okm 100 = true := by decide +kernel
set_option maxRecDepth 100000 in
theorem px_v101 : px_okm 101 = true := by decide +kernel
set_option maxRecDepth 100000 in
theorem px_v102 : px_okm 102 = true := by decide +kernel
set_option maxRecDepth 100000 in
theorem px_v103 : px_okm 103 = true := by decide +kernel
set_option maxRecDepth 100000 in
theorem px_v104 : px_okm 104 = true := by decide +kernel
set_option maxRecDepth 100000 in
theorem px_v105 : px_okm 105 = true := by decide +kernel
set_option maxRecDepth 100000 in
theorem px_v106 : px_okm 106 = true := by decide +kernel
set_option maxRecDepth 100000 in
theorem px_v107 : px_okm 107 = true := by decide +kernel
set_option maxRecDepth 100000 in
theorem px_v108 : px_okm 108 = true := by decide +kernel
set_option maxRecDepth 100000 in
theorem px_v109 : px_okm 109 = true := by decide +kernel
set_option maxRecDepth 100000 in
theorem px_v110 : px_okm 110 = true := by decide +kernel
set_option maxRecDepth 100000 in
theorem px_v111 : px_okm 111 = true := by decide +kernel
set_option maxRecDepth 100000 in
theorem px_v112 : px_okm 112 = true := by decide +kernel
set_option maxRecDepth 100000 in
theorem px_v113 : px_okm 113 = true := by decide +kernel
set_option maxRecDepth 100000 in
theorem px_v114 : px_okm 114 = true := by decide +kernel
set_option maxRecDepth 100000 in
theorem px_v115 : px_okm 115 = true := by decide +kernel
set_option maxRecDepth 100000 in
theorem px_v116 : px_okm 116 = true := by decide +kernel
set_option maxRecDepth 100000 in
theorem px_v117 : px_okm 117 = true := by decide +kernel
set_option maxRecDepth 100000 in
theorem px_v118 : px_okm 118 = true := by decide +kernel
set_option maxRecDepth 100000 in
theorem px_v119 : px_okm 119 = true := by decide +kernel
set_option maxRecDepth 100000 in
theorem px_v120 : px_okm 120 = true := by decide +kernel
set_option maxRecDepth 100000 in
theorem px_v121 : px_okm 121 = true := by decide +kernel
set_option maxRecDepth 100000 in
theorem px_v122 : px_okm 122 = true := by decide +kernel
set_option maxRecDepth 100000 in
theorem px_v123 : px_okm 123 = true := by decide +kernel
set_option maxRecDepth 100000 in
theorem px_v124 : px_okm 124 = true := by decide +kernel
set_option maxRecDepth 100000 in
theorem px_v125 : px_okm 125 = true := by decide +kernel
set_option maxRecDepth 100000 in
theorem px_v126 : px_okm 126 = true := by decide +kernel
set_option maxRecDepth 100000 in
theorem px_v127 : px_okm 127 = true := by decide +kernel
set_option maxRecDepth 100000 in
theorem px_v128 : px_okm 128 = true := by decide +kernel
set_option maxRecDepth 100000 in
theorem px_v129 : px_okm 129 = true := by decide +kernel
set_option maxRecDepth 100000 in
theorem px_v130 : px_okm 130 = true := by decide +kernel
set_option maxRecDepth 100000 in
theorem px_v131 : px_okm 131 = true := by decide +kernel
set_option maxRecDepth 100000 in
theorem px_v132 : px_okm 132 = true := by decide +kernel
set_option maxRecDepth 100000 in
theorem px_v133 : px_okm 133 = true := by decide +kernel
set_option maxRecDepth 100000 in
theorem px_v134 : px_okm 134 = true := by decide +kernel
set_option maxRecDepth 100000 in
theorem px_v135 : px_okm 135 = true := by decide +kernel
set_option maxRecDepth 100000 in
theorem px_v136 : px_okm 136 = true := by decide +kernel
set_option maxRecDepth 100000 in
theorem px_v137 : px_okm 137 = true := by decide +kernel
set_option maxRecDepth 100000 in
theorem px_v138 : px_okm 138 = true := by decide +kernel
set_option maxRecDepth 100000 in
theorem px_v139 : px_okm 139 = true := by decide +kernel
set_option maxRecDepth 100000 in
theorem px_v140 : px_okm 140 = true := by decide +kernel
set_option maxRecDepth 100000 in
theorem px_v141 : px_okm 141 = true := by decide +kernel
set_option maxRecDepth 100000 in
theorem px_v142 : px_okm 142 = true := by decide +kernel
set_option maxRecDepth 100000 in
theorem px_v143 : px_okm 143 = true := by decide +kernel
set_option maxRecDepth 100000 in
theorem px_v144 : px_okm 144 = true := by decide +kernel
set_option maxRecDepth 100000 in
theorem px_v145 : px_okm 145 = true := by decide +kernel
set_option maxRecDepth 100000 in
theorem px_v146 : px_okm 146 = true := by decide +kernel
set_option maxRecDepth 100000 in
theorem px_v147 : px_okm 147 = true := by decide +kernel
set_option maxRecDepth 100000 in
theorem px_v149 : px_okm 149 = true := by decide +kernel
set_option maxRecDepth 100000 in
theorem px_v150 : px_okm 150 = true := by decide +kernel
set_option maxRecDepth 100000 in
theorem px_v151 : px_okm 151 = true := by decide +kernel
set_option maxRecDepth 100000 in
theorem px_v152 : px_okm 152 = true := by decide +kernel
set_option maxRecDepth 100000 in
theorem px_v153 : px_okm 153 = true := by decide +kernel
set_option maxRecDepth 100000 in
theorem px_v154 : px_okm 154 = true := by decide +kernel
set_option maxRecDepth 100000 in
theorem px_v155 : px_okm 155 = true := by decide +kernel
set_option maxRecDepth 100000 in
theorem px_v156 : px_okm 156 = true := by decide +kernel
set_option maxRecDepth 100000 in
theorem px_v157 : px_okm 157 = true := by decide +kernel
set_option maxRecDepth 100000 in
theorem px_v158 : px_okm 158 = true := by decide +kernel
set_option maxRecDepth 100000 in
theorem px_v159 : px_okm 159 = true := by decide +kernel
set_option maxRecDepth 100000 in
theorem px_v160 : px_okm 160 = true := by decide +kernel
set_option maxRecDepth 100000 in
theorem px_v161 : px_okm 161 = true := by decide +kernel
set_option maxRecDepth 100000 in
theorem px_v162 : px_okm 162 = true := by decide +kernel
set_option maxRecDepth 100000 in
theorem px_v163 : px_okm 163 = true := by decide +kernel
set_option maxRecDepth 100000 in
theorem px_v164 : px_okm 164 = true := by decide +kernel
set_option maxRecDepth 100000 in
theorem px_v165 : px_okm 165 = true := by decide +kernel
set_option maxRecDepth 100000 in
theorem px_v166 : px_okm 166 = true := by decide +kernel
set_option maxRecDepth 100000 in
theorem px_v167 : px_okm 167 = true := by decide +kernel
set_option maxRecDepth 100000 in
theorem px_v168 : px_okm 168 = true := by decide +kernel
set_option maxRecDepth 100000 in
theorem px_v169 : px_okm 169 = true := by decide +kernel
set_option maxRecDepth 100000 in
theorem px_v170 : px_okm 170 = true := by decide +kernel
set_option maxRecDepth 100000 in
theorem px_v171 : px_okm 171 = true := by decide +kernel
set_option maxRecDepth 100000 in
theorem px_v172 : px_okm 172 = true := by decide +kernel
set_option maxRecDepth 100000 in
theorem px_v173 : px_okm 173 = true := by decide +kernel
set_option maxRecDepth 100000 in
theorem px_v174 : px_okm 174 = true := by decide +kernel
set_option maxRecDepth 100000 in
theorem px_v175 : px_okm 175 = true := by decide +kernel
set_option maxRecDepth 100000 in
theorem px_v176 : px_okm 176 = true := by decide +kernel
set_option maxRecDepth 100000 in
theorem px_v177 : px_okm 177 = true := by decide +kernel
set_option maxRecDepth 100000 in
theorem px_v178 : px_okm 178 = true := by decide +kernel
set_option maxRecDepth 100000 in
theorem px_v179 : px_okm 179 = true := by decide +kernel
set_option maxRecDepth 100000 in
theorem px_v180 : px_okm 180 = true := by decide +kernel
set_option maxRecDepth 100000 in
theorem px_v181 : px_okm 181 = true := by decide +kernel
set_option maxRecDepth 100000 in
theorem px_v182 : px_okm 182 = true := by decide +kernel
set_option maxRecDepth 100000 in
theorem px_v183 : px_okm 183 = true := by decide +kernel
set_option maxRecDepth 100000 in
theorem px_v184 : px_okm 184 = true := by decide +kernel
set_option maxRecDepth 100000 in
theorem px_v185 : px_okm 185 = true := by decide +kernel
set_option maxRecDepth 100000 in
theorem px_v186 : px_okm 186 = true := by decide +kernel
set_option maxRecDepth 100000 in
theorem px_v187 : px_okm 187 = true := by decide +kernel
set_option maxRecDepth 100000 in
theorem px_v188 : px_okm 188 = true := by decide +kernel
set_option maxRecDepth 100000 in
theorem px_v189 : px_okm 189 = true := by decide +kernel
set_option maxRecDepth 100000 in
theorem px_v190 : px_okm 190 = true := by decide +kernel
set_option maxRecDepth 100000 in
theorem px_v191 : px_okm 191 = true := by decide +kernel
set_option maxRecDepth 100000 in
theorem px_v192 : px_okm 192 = true := by decide +kernel
set_option maxRecDepth 100000 in
theorem px_v193 : px_okm 193 = true := by decide +kernel
set_option maxRecDepth 100000 in
theorem px_v194 : px_okm 194 = true := by decide +kernel
set_option maxRecDepth 100000 in
theorem px_v195 : px_okm 195 = true := by decide +kernel
set_option maxRecDepth 100000 in
theorem px_v196 : px_okm 196 = true := by decide +kernel
set_option maxRecDepth 100000 in
theorem px_v197 : px_okm 197 = true := by decide +kernel
set_option maxRecDepth 100000 in
theorem px_v198 : px_okm 198 = true := by decide +kernel
set_option maxRecDepth 100000 in
theorem px_v199 : px_okm 199 = true := by decide +kernel
set_option maxRecDepth 100000 in
theorem px_v200 : px_okm 200 = true := by decide +kernel
set_option maxRecDepth 100000 in
theorem px_v201 : px_okm 201 = true := by decide +kernel
set_option maxRecDepth 100000 in
theorem px_v202 : px_okm 202 = true := by decide +kernel
set_option maxRecDepth 100000 in
theorem px_v203 : px_okm 203 = true := by decide +kernel
set_option maxRecDepth 100000 in
theorem px_v204 : px_okm 204 = true := by decide +kernel
set_option maxRecDepth 100000 in
theorem px_v205 : px_okm 205 = true := by decide +kernel
set_option maxRecDepth 100000 in
theorem px_v206 : px_okm 206 = true := by decide +kernel
set_option maxRecDepth 100000 in
theorem px_v207 : px_okm 207 = true := by decide +kernel
set_option maxRecDepth 100000 in
theorem px_v208 : px_okm 208 = true := by decide +kernel
set_option maxRecDepth 100000 in
theorem px_v209 : px_okm 209 = true := by decide +kernel
set_option maxRecDepth 100000 in
theorem px_v210 : px_okm 210 = true := by decide +kernel
set_option maxRecDepth 100000 in
theorem px_v211 : px_okm 211 = true := by decide +kernel
set_option maxRecDepth 100000 in
theorem px_v212 : px_okm 212 = true := by decide +kernel
set_option maxRecDepth 100000 in
theorem px_v213 : px_okm 213 = true := by decide +kernel
set_option maxRecDepth 100000 in
theorem px_v214 : px_okm 214 = true := by decide +kernel
