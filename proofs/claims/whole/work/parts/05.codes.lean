/-! every instruction of the tables, and every code, as the class files have them: by program (wip/whole/gen2.py) -/
theorem pm_ck0 : pm_T0.all (pm_ck 0) = true := by decide +kernel
theorem pm_ck1 : pm_T1.all (pm_ck 1) = true := by decide +kernel
theorem pm_ck2 : pm_T2.all (pm_ck 2) = true := by decide +kernel
theorem pm_ck3 : pm_T3.all (pm_ck 3) = true := by decide +kernel
theorem pm_ck4 : pm_T4.all (pm_ck 4) = true := by decide +kernel
theorem pm_ck5 : pm_T5.all (pm_ck 5) = true := by decide +kernel
theorem pm_ck6 : pm_T6.all (pm_ck 6) = true := by decide +kernel
theorem pm_ck7 : pm_T7.all (pm_ck 7) = true := by decide +kernel
theorem pm_ck8 : pm_T8.all (pm_ck 8) = true := by decide +kernel
theorem pm_ck9 : pm_T9.all (pm_ck 9) = true := by decide +kernel
theorem pm_ck10 : pm_T10.all (pm_ck 10) = true := by decide +kernel
theorem pm_ck11 : pm_T11.all (pm_ck 11) = true := by decide +kernel
theorem pm_ck12 : pm_T12.all (pm_ck 12) = true := by decide +kernel
theorem pm_ck13 : pm_T13.all (pm_ck 13) = true := by decide +kernel
theorem pm_ck14 : pm_T14.all (pm_ck 14) = true := by decide +kernel
theorem pm_ck15 : pm_T15.all (pm_ck 15) = true := by decide +kernel
theorem pm_ck16 : pm_T16.all (pm_ck 16) = true := by decide +kernel
theorem pm_ck17 : pm_T17.all (pm_ck 17) = true := by decide +kernel
theorem pm_ck18 : pm_T18.all (pm_ck 18) = true := by decide +kernel
theorem pm_ck19 : pm_T19.all (pm_ck 19) = true := by decide +kernel
theorem pm_ck20 : pm_T20.all (pm_ck 20) = true := by decide +kernel
theorem pm_ck21 : pm_T21.all (pm_ck 21) = true := by decide +kernel
theorem pm_ck22 : pm_T22.all (pm_ck 22) = true := by decide +kernel
theorem pm_ck23 : pm_T23.all (pm_ck 23) = true := by decide +kernel
theorem pm_ck24 : pm_T24.all (pm_ck 24) = true := by decide +kernel
theorem pm_ck25 : pm_T25.all (pm_ck 25) = true := by decide +kernel
theorem pm_ck26 : pm_T26.all (pm_ck 26) = true := by decide +kernel
theorem pm_ck27 : pm_T27.all (pm_ck 27) = true := by decide +kernel
theorem pm_ck28 : pm_T28.all (pm_ck 28) = true := by decide +kernel
theorem pm_ck29 : pm_T29.all (pm_ck 29) = true := by decide +kernel
theorem pm_ck30 : pm_T30.all (pm_ck 30) = true := by decide +kernel
theorem pm_ck31 : pm_T31.all (pm_ck 31) = true := by decide +kernel
theorem pm_ck32 : pm_T32.all (pm_ck 32) = true := by decide +kernel
theorem pm_ck33 : pm_T33.all (pm_ck 33) = true := by decide +kernel
theorem pm_ck34 : pm_T34.all (pm_ck 34) = true := by decide +kernel
theorem pm_ck35 : pm_T35.all (pm_ck 35) = true := by decide +kernel
theorem pm_ck36 : pm_T36.all (pm_ck 36) = true := by decide +kernel
theorem pm_ck37 : pm_T37.all (pm_ck 37) = true := by decide +kernel
theorem pm_ck38 : pm_T38.all (pm_ck 38) = true := by decide +kernel
theorem pm_ck39 : pm_T39.all (pm_ck 39) = true := by decide +kernel
theorem pm_ck40 : pm_T40.all (pm_ck 40) = true := by decide +kernel
theorem pm_ck41 : pm_T41.all (pm_ck 41) = true := by decide +kernel
theorem pm_ck42 : pm_T42.all (pm_ck 42) = true := by decide +kernel
theorem pm_ck43 : pm_T43.all (pm_ck 43) = true := by decide +kernel
theorem pm_ck44 : pm_T44.all (pm_ck 44) = true := by decide +kernel
theorem pm_ck45 : pm_T45.all (pm_ck 45) = true := by decide +kernel
theorem pm_ck46 : pm_T46.all (pm_ck 46) = true := by decide +kernel
theorem pm_ck47 : pm_T47.all (pm_ck 47) = true := by decide +kernel
theorem pm_ck48 : pm_T48.all (pm_ck 48) = true := by decide +kernel
theorem pm_ck49 : pm_T49.all (pm_ck 49) = true := by decide +kernel
theorem pm_ck50 : pm_T50.all (pm_ck 50) = true := by decide +kernel
theorem pm_ck51 : pm_T51.all (pm_ck 51) = true := by decide +kernel
theorem pm_ck52 : pm_T52.all (pm_ck 52) = true := by decide +kernel
theorem pm_ck53 : pm_T53.all (pm_ck 53) = true := by decide +kernel
theorem pm_ck54 : pm_T54.all (pm_ck 54) = true := by decide +kernel
theorem pm_ck55 : pm_T55.all (pm_ck 55) = true := by decide +kernel
theorem pm_ck56 : pm_T56.all (pm_ck 56) = true := by decide +kernel
theorem pm_ck57 : pm_T57.all (pm_ck 57) = true := by decide +kernel
theorem pm_ck58 : pm_T58.all (pm_ck 58) = true := by decide +kernel
theorem pm_ck59 : pm_T59.all (pm_ck 59) = true := by decide +kernel
theorem pm_ck60 : pm_T60.all (pm_ck 60) = true := by decide +kernel
theorem pm_ck61 : pm_T61.all (pm_ck 61) = true := by decide +kernel
theorem pm_ck62 : pm_T62.all (pm_ck 62) = true := by decide +kernel
theorem pm_ck63 : pm_T63.all (pm_ck 63) = true := by decide +kernel
theorem pm_ck64 : pm_T64.all (pm_ck 64) = true := by decide +kernel
theorem pm_ck65 : pm_T65.all (pm_ck 65) = true := by decide +kernel
theorem pm_ck66 : pm_T66.all (pm_ck 66) = true := by decide +kernel
theorem pm_ck67 : pm_T67.all (pm_ck 67) = true := by decide +kernel
theorem pm_ck68 : pm_T68.all (pm_ck 68) = true := by decide +kernel
theorem pm_ck69 : pm_T69.all (pm_ck 69) = true := by decide +kernel
theorem pm_ck70 : pm_T70.all (pm_ck 70) = true := by decide +kernel
theorem pm_ck71 : pm_T71.all (pm_ck 71) = true := by decide +kernel
theorem pm_ck72 : pm_T72.all (pm_ck 72) = true := by decide +kernel
theorem pm_ck73 : pm_T73.all (pm_ck 73) = true := by decide +kernel
theorem pm_ck74 : pm_T74.all (pm_ck 74) = true := by decide +kernel
theorem pm_ck75 : pm_T75.all (pm_ck 75) = true := by decide +kernel
theorem pm_ck76 : pm_T76.all (pm_ck 76) = true := by decide +kernel
theorem pm_ck77 : pm_T77.all (pm_ck 77) = true := by decide +kernel
theorem pm_ck78 : pm_T78.all (pm_ck 78) = true := by decide +kernel
theorem pm_ck79 : pm_T79.all (pm_ck 79) = true := by decide +kernel
theorem pm_ck80 : pm_T80.all (pm_ck 80) = true := by decide +kernel
theorem pm_ck81 : pm_T81.all (pm_ck 81) = true := by decide +kernel
theorem pm_ck82 : pm_T82.all (pm_ck 82) = true := by decide +kernel
theorem pm_ck83 : pm_T83.all (pm_ck 83) = true := by decide +kernel
theorem pm_ck84 : pm_T84.all (pm_ck 84) = true := by decide +kernel
theorem pm_ck85 : pm_T85.all (pm_ck 85) = true := by decide +kernel
theorem pm_ck86 : pm_T86.all (pm_ck 86) = true := by decide +kernel
theorem pm_ck87 : pm_T87.all (pm_ck 87) = true := by decide +kernel
theorem pm_ck88 : pm_T88.all (pm_ck 88) = true := by decide +kernel
theorem pm_ck89 : pm_T89.all (pm_ck 89) = true := by decide +kernel
theorem pm_ck90 : pm_T90.all (pm_ck 90) = true := by decide +kernel
theorem pm_ck91 : pm_T91.all (pm_ck 91) = true := by decide +kernel
theorem pm_ck92 : pm_T92.all (pm_ck 92) = true := by decide +kernel
theorem pm_ck93 : pm_T93.all (pm_ck 93) = true := by decide +kernel
theorem pm_ck94 : pm_T94.all (pm_ck 94) = true := by decide +kernel
theorem pm_ck95 : pm_T95.all (pm_ck 95) = true := by decide +kernel
theorem pm_ck96 : pm_T96.all (pm_ck 96) = true := by decide +kernel
theorem pm_ck97 : pm_T97.all (pm_ck 97) = true := by decide +kernel
theorem pm_ck98 : pm_T98.all (pm_ck 98) = true := by decide +kernel
theorem pm_ck99 : pm_T99.all (pm_ck 99) = true := by decide +kernel
theorem pm_ck100 : pm_T100.all (pm_ck 100) = true := by decide +kernel
theorem pm_ck101 : pm_T101.all (pm_ck 101) = true := by decide +kernel
theorem pm_ck102 : pm_T102.all (pm_ck 102) = true := by decide +kernel
theorem pm_ck103 : pm_T103.all (pm_ck 103) = true := by decide +kernel
theorem pm_ck104 : pm_T104.all (pm_ck 104) = true := by decide +kernel
theorem pm_ck105 : pm_T105.all (pm_ck 105) = true := by decide +kernel
theorem pm_ck106 : pm_T106.all (pm_ck 106) = true := by decide +kernel
theorem pm_ck107 : pm_T107.all (pm_ck 107) = true := by decide +kernel
theorem pm_ck108 : pm_T108.all (pm_ck 108) = true := by decide +kernel
theorem pm_ck109 : pm_T109.all (pm_ck 109) = true := by decide +kernel
theorem pm_ck110 : pm_T110.all (pm_ck 110) = true := by decide +kernel
theorem pm_ck111 : pm_T111.all (pm_ck 111) = true := by decide +kernel
theorem pm_ck112 : pm_T112.all (pm_ck 112) = true := by decide +kernel
theorem pm_ck113 : pm_T113.all (pm_ck 113) = true := by decide +kernel
theorem pm_ck114 : pm_T114.all (pm_ck 114) = true := by decide +kernel
theorem pm_ck115 : pm_T115.all (pm_ck 115) = true := by decide +kernel
theorem pm_ck116 : pm_T116.all (pm_ck 116) = true := by decide +kernel
theorem pm_ck117 : pm_T117.all (pm_ck 117) = true := by decide +kernel
theorem pm_ck118 : pm_T118.all (pm_ck 118) = true := by decide +kernel
theorem pm_ck119 : pm_T119.all (pm_ck 119) = true := by decide +kernel
theorem pm_ck120 : pm_T120.all (pm_ck 120) = true := by decide +kernel
theorem pm_ck121 : pm_T121.all (pm_ck 121) = true := by decide +kernel
theorem pm_ck122 : pm_T122.all (pm_ck 122) = true := by decide +kernel
theorem pm_ck123 : pm_T123.all (pm_ck 123) = true := by decide +kernel
theorem pm_ck124 : pm_T124.all (pm_ck 124) = true := by decide +kernel
theorem pm_ck125 : pm_T125.all (pm_ck 125) = true := by decide +kernel
theorem pm_ck126 : pm_T126.all (pm_ck 126) = true := by decide +kernel
theorem pm_ck127 : pm_T127.all (pm_ck 127) = true := by decide +kernel
theorem pm_ck128 : pm_T128.all (pm_ck 128) = true := by decide +kernel
theorem pm_ck129 : pm_T129.all (pm_ck 129) = true := by decide +kernel
theorem pm_ck130 : pm_T130.all (pm_ck 130) = true := by decide +kernel
theorem pm_ck131 : pm_T131.all (pm_ck 131) = true := by decide +kernel
theorem pm_ck132 : pm_T132.all (pm_ck 132) = true := by decide +kernel
theorem pm_ck133 : pm_T133.all (pm_ck 133) = true := by decide +kernel
theorem pm_ck134 : pm_T134.all (pm_ck 134) = true := by decide +kernel
theorem pm_ck135 : pm_T135.all (pm_ck 135) = true := by decide +kernel
theorem pm_ck136 : pm_T136.all (pm_ck 136) = true := by decide +kernel
theorem pm_ck137 : pm_T137.all (pm_ck 137) = true := by decide +kernel
theorem pm_ck138 : pm_T138.all (pm_ck 138) = true := by decide +kernel
theorem pm_ck139 : pm_T139.all (pm_ck 139) = true := by decide +kernel
theorem pm_ck140 : pm_T140.all (pm_ck 140) = true := by decide +kernel
theorem pm_ck141 : pm_T141.all (pm_ck 141) = true := by decide +kernel
theorem pm_ck142 : pm_T142.all (pm_ck 142) = true := by decide +kernel
theorem pm_ck143 : pm_T143.all (pm_ck 143) = true := by decide +kernel
theorem pm_ck144 : pm_T144.all (pm_ck 144) = true := by decide +kernel
theorem pm_ck145 : pm_T145.all (pm_ck 145) = true := by decide +kernel
theorem pm_ck146 : pm_T146.all (pm_ck 146) = true := by decide +kernel
theorem pm_ck147 : pm_T147.all (pm_ck 147) = true := by decide +kernel
theorem pm_ck148 : pm_T148.all (pm_ck 148) = true := by decide +kernel
theorem pm_ck149 : pm_T149.all (pm_ck 149) = true := by decide +kernel
theorem pm_ck150 : pm_T150.all (pm_ck 150) = true := by decide +kernel
theorem pm_ck151 : pm_T151.all (pm_ck 151) = true := by decide +kernel
theorem pm_ck152 : pm_T152.all (pm_ck 152) = true := by decide +kernel
theorem pm_ck153 : pm_T153.all (pm_ck 153) = true := by decide +kernel
theorem pm_ck154 : pm_T154.all (pm_ck 154) = true := by decide +kernel
theorem pm_ck155 : pm_T155.all (pm_ck 155) = true := by decide +kernel
theorem pm_ck156 : pm_T156.all (pm_ck 156) = true := by decide +kernel
theorem pm_ck157 : pm_T157.all (pm_ck 157) = true := by decide +kernel
theorem pm_ck158 : pm_T158.all (pm_ck 158) = true := by decide +kernel
theorem pm_ck159 : pm_T159.all (pm_ck 159) = true := by decide +kernel
theorem pm_ck160 : pm_T160.all (pm_ck 160) = true := by decide +kernel
theorem pm_ck161 : pm_T161.all (pm_ck 161) = true := by decide +kernel
theorem pm_ck162 : pm_T162.all (pm_ck 162) = true := by decide +kernel
theorem pm_ck163 : pm_T163.all (pm_ck 163) = true := by decide +kernel
theorem pm_ck164 : pm_T164.all (pm_ck 164) = true := by decide +kernel
theorem pm_ck165 : pm_T165.all (pm_ck 165) = true := by decide +kernel
theorem pm_ck166 : pm_T166.all (pm_ck 166) = true := by decide +kernel
theorem pm_ck167 : pm_T167.all (pm_ck 167) = true := by decide +kernel
theorem pm_ck168 : pm_T168.all (pm_ck 168) = true := by decide +kernel
theorem pm_ck169 : pm_T169.all (pm_ck 169) = true := by decide +kernel
theorem pm_ck170 : pm_T170.all (pm_ck 170) = true := by decide +kernel
theorem pm_ck171 : pm_T171.all (pm_ck 171) = true := by decide +kernel
theorem pm_ck172 : pm_T172.all (pm_ck 172) = true := by decide +kernel
theorem pm_ck173 : pm_T173.all (pm_ck 173) = true := by decide +kernel
theorem pm_ck174 : pm_T174.all (pm_ck 174) = true := by decide +kernel
theorem pm_ck175 : pm_T175.all (pm_ck 175) = true := by decide +kernel
theorem pm_ck176 : pm_T176.all (pm_ck 176) = true := by decide +kernel
theorem pm_ck177 : pm_T177.all (pm_ck 177) = true := by decide +kernel
theorem pm_ck178 : pm_T178.all (pm_ck 178) = true := by decide +kernel
theorem pm_ck179 : pm_T179.all (pm_ck 179) = true := by decide +kernel
theorem pm_ck180 : pm_T180.all (pm_ck 180) = true := by decide +kernel
theorem pm_ck181 : pm_T181.all (pm_ck 181) = true := by decide +kernel
theorem pm_ck182 : pm_T182.all (pm_ck 182) = true := by decide +kernel
theorem pm_ck183 : pm_T183.all (pm_ck 183) = true := by decide +kernel
theorem pm_ck184 : pm_T184.all (pm_ck 184) = true := by decide +kernel
theorem pm_ck185 : pm_T185.all (pm_ck 185) = true := by decide +kernel
theorem pm_ck186 : pm_T186.all (pm_ck 186) = true := by decide +kernel
theorem pm_ck187 : pm_T187.all (pm_ck 187) = true := by decide +kernel
theorem pm_ck188 : pm_T188.all (pm_ck 188) = true := by decide +kernel
theorem pm_ck189 : pm_T189.all (pm_ck 189) = true := by decide +kernel
theorem pm_ck190 : pm_T190.all (pm_ck 190) = true := by decide +kernel
theorem pm_ck191 : pm_T191.all (pm_ck 191) = true := by decide +kernel
theorem pm_ck192 : pm_T192.all (pm_ck 192) = true := by decide +kernel
theorem pm_ck193 : pm_T193.all (pm_ck 193) = true := by decide +kernel
theorem pm_ck194 : pm_T194.all (pm_ck 194) = true := by decide +kernel
theorem pm_ck195 : pm_T195.all (pm_ck 195) = true := by decide +kernel
theorem pm_ck196 : pm_T196.all (pm_ck 196) = true := by decide +kernel
theorem pm_ck197 : pm_T197.all (pm_ck 197) = true := by decide +kernel
theorem pm_ck198 : pm_T198.all (pm_ck 198) = true := by decide +kernel
theorem pm_ck199 : pm_T199.all (pm_ck 199) = true := by decide +kernel
theorem pm_ck200 : pm_T200.all (pm_ck 200) = true := by decide +kernel
theorem pm_ck201 : pm_T201.all (pm_ck 201) = true := by decide +kernel
theorem pm_ck202 : pm_T202.all (pm_ck 202) = true := by decide +kernel
theorem pm_ck203 : pm_T203.all (pm_ck 203) = true := by decide +kernel
theorem pm_ck204 : pm_T204.all (pm_ck 204) = true := by decide +kernel
theorem pm_ck205 : pm_T205.all (pm_ck 205) = true := by decide +kernel
theorem pm_ck206 : pm_T206.all (pm_ck 206) = true := by decide +kernel
theorem pm_ck207 : pm_T207.all (pm_ck 207) = true := by decide +kernel
theorem pm_ck208 : pm_T208.all (pm_ck 208) = true := by decide +kernel
theorem pm_ck209 : pm_T209.all (pm_ck 209) = true := by decide +kernel
theorem pm_ck210 : pm_T210.all (pm_ck 210) = true := by decide +kernel
theorem pm_ck211 : pm_T211.all (pm_ck 211) = true := by decide +kernel
theorem pm_ck212 : pm_T212.all (pm_ck 212) = true := by decide +kernel
theorem pm_ck213 : pm_T213.all (pm_ck 213) = true := by decide +kernel
theorem pm_ck214 : pm_T214.all (pm_ck 214) = true := by decide +kernel
theorem pm_ck215 : pm_T215.all (pm_ck 215) = true := by decide +kernel
theorem pm_ck216 : pm_T216.all (pm_ck 216) = true := by decide +kernel
theorem pm_ck217 : pm_T217.all (pm_ck 217) = true := by decide +kernel
theorem pm_ck218 : pm_T218.all (pm_ck 218) = true := by decide +kernel
theorem pm_ck219 : pm_T219.all (pm_ck 219) = true := by decide +kernel
theorem pm_ck220 : pm_T220.all (pm_ck 220) = true := by decide +kernel
theorem pm_ck221 : pm_T221.all (pm_ck 221) = true := by decide +kernel
theorem pm_ck222 : pm_T222.all (pm_ck 222) = true := by decide +kernel
theorem pm_ck223 : pm_T223.all (pm_ck 223) = true := by decide +kernel
theorem pm_ck224 : pm_T224.all (pm_ck 224) = true := by decide +kernel
theorem pm_ck225 : pm_T225.all (pm_ck 225) = true := by decide +kernel
theorem pm_ck226 : pm_T226.all (pm_ck 226) = true := by decide +kernel
theorem pm_ck227 : pm_T227.all (pm_ck 227) = true := by decide +kernel
theorem pm_ck228 : pm_T228.all (pm_ck 228) = true := by decide +kernel
theorem pm_ck229 : pm_T229.all (pm_ck 229) = true := by decide +kernel
theorem pm_ck230 : pm_T230.all (pm_ck 230) = true := by decide +kernel
theorem pm_ck231 : pm_T231.all (pm_ck 231) = true := by decide +kernel
theorem pm_ck232 : pm_T232.all (pm_ck 232) = true := by decide +kernel
theorem pm_ck233 : pm_T233.all (pm_ck 233) = true := by decide +kernel
theorem pm_ck234 : pm_T234.all (pm_ck 234) = true := by decide +kernel
theorem pm_ck235 : pm_T235.all (pm_ck 235) = true := by decide +kernel
theorem pm_ck236 : pm_T236.all (pm_ck 236) = true := by decide +kernel
theorem pm_ck237 : pm_T237.all (pm_ck 237) = true := by decide +kernel
theorem pm_ck238 : pm_T238.all (pm_ck 238) = true := by decide +kernel
theorem pm_ck239 : pm_T239.all (pm_ck 239) = true := by decide +kernel
theorem pm_ck240 : pm_T240.all (pm_ck 240) = true := by decide +kernel
theorem pm_ck241 : pm_T241.all (pm_ck 241) = true := by decide +kernel
theorem pm_ck242 : pm_T242.all (pm_ck 242) = true := by decide +kernel
theorem pm_ck243 : pm_T243.all (pm_ck 243) = true := by decide +kernel
theorem pm_ck244 : pm_T244.all (pm_ck 244) = true := by decide +kernel
theorem pm_ck245 : pm_T245.all (pm_ck 245) = true := by decide +kernel
theorem pm_ck246 : pm_T246.all (pm_ck 246) = true := by decide +kernel
theorem pm_ck247 : pm_T247.all (pm_ck 247) = true := by decide +kernel
theorem pm_ck248 : pm_T248.all (pm_ck 248) = true := by decide +kernel
theorem pm_ck249 : pm_T249.all (pm_ck 249) = true := by decide +kernel
theorem pm_ck250 : pm_T250.all (pm_ck 250) = true := by decide +kernel
theorem pm_ck251 : pm_T251.all (pm_ck 251) = true := by decide +kernel
theorem pm_ck252 : pm_T252.all (pm_ck 252) = true := by decide +kernel
theorem pm_ck253 : pm_T253.all (pm_ck 253) = true := by decide +kernel
theorem pm_ck254 : pm_T254.all (pm_ck 254) = true := by decide +kernel
theorem pm_ck255 : pm_T255.all (pm_ck 255) = true := by decide +kernel
theorem pm_ck256 : pm_T256.all (pm_ck 256) = true := by decide +kernel
theorem pm_ck257 : pm_T257.all (pm_ck 257) = true := by decide +kernel
theorem pm_ck258 : pm_T258.all (pm_ck 258) = true := by decide +kernel
theorem pm_ck259 : pm_T259.all (pm_ck 259) = true := by decide +kernel
theorem pm_ck260 : pm_T260.all (pm_ck 260) = true := by decide +kernel
theorem pm_ck261 : pm_T261.all (pm_ck 261) = true := by decide +kernel
theorem pm_ck262 : pm_T262.all (pm_ck 262) = true := by decide +kernel
theorem pm_ck263 : pm_T263.all (pm_ck 263) = true := by decide +kernel
theorem pm_ckall : ∀ k, k < 264 → (pm_T.getD k []).all (pm_ck k) = true := by
  intro k hk
  by_cases h0_264 : k < 132
  · skip
    by_cases h0_132 : k < 66
    · skip
      by_cases h0_66 : k < 33
      · skip
        by_cases h0_33 : k < 16
        · skip
          by_cases h0_16 : k < 8
          · skip
            by_cases h0_8 : k < 4
            · skip
              by_cases h0_4 : k < 2
              · skip
                by_cases h0_2 : k < 1
                · skip
                  obtain rfl : k = 0 := by omega
                  exact pm_ck0
                · skip
                  obtain rfl : k = 1 := by omega
                  exact pm_ck1
              · skip
                by_cases h2_4 : k < 3
                · skip
                  obtain rfl : k = 2 := by omega
                  exact pm_ck2
                · skip
                  obtain rfl : k = 3 := by omega
                  exact pm_ck3
            · skip
              by_cases h4_8 : k < 6
              · skip
                by_cases h4_6 : k < 5
                · skip
                  obtain rfl : k = 4 := by omega
                  exact pm_ck4
                · skip
                  obtain rfl : k = 5 := by omega
                  exact pm_ck5
              · skip
                by_cases h6_8 : k < 7
                · skip
                  obtain rfl : k = 6 := by omega
                  exact pm_ck6
                · skip
                  obtain rfl : k = 7 := by omega
                  exact pm_ck7
          · skip
            by_cases h8_16 : k < 12
            · skip
              by_cases h8_12 : k < 10
              · skip
                by_cases h8_10 : k < 9
                · skip
                  obtain rfl : k = 8 := by omega
                  exact pm_ck8
                · skip
                  obtain rfl : k = 9 := by omega
                  exact pm_ck9
              · skip
                by_cases h10_12 : k < 11
                · skip
                  obtain rfl : k = 10 := by omega
                  exact pm_ck10
                · skip
                  obtain rfl : k = 11 := by omega
                  exact pm_ck11
            · skip
              by_cases h12_16 : k < 14
              · skip
                by_cases h12_14 : k < 13
                · skip
                  obtain rfl : k = 12 := by omega
                  exact pm_ck12
                · skip
                  obtain rfl : k = 13 := by omega
                  exact pm_ck13
              · skip
                by_cases h14_16 : k < 15
                · skip
                  obtain rfl : k = 14 := by omega
                  exact pm_ck14
                · skip
                  obtain rfl : k = 15 := by omega
                  exact pm_ck15
        · skip
          by_cases h16_33 : k < 24
          · skip
            by_cases h16_24 : k < 20
            · skip
              by_cases h16_20 : k < 18
              · skip
                by_cases h16_18 : k < 17
                · skip
                  obtain rfl : k = 16 := by omega
                  exact pm_ck16
                · skip
                  obtain rfl : k = 17 := by omega
                  exact pm_ck17
              · skip
                by_cases h18_20 : k < 19
                · skip
                  obtain rfl : k = 18 := by omega
                  exact pm_ck18
                · skip
                  obtain rfl : k = 19 := by omega
                  exact pm_ck19
            · skip
              by_cases h20_24 : k < 22
              · skip
                by_cases h20_22 : k < 21
                · skip
                  obtain rfl : k = 20 := by omega
                  exact pm_ck20
                · skip
                  obtain rfl : k = 21 := by omega
                  exact pm_ck21
              · skip
                by_cases h22_24 : k < 23
                · skip
                  obtain rfl : k = 22 := by omega
                  exact pm_ck22
                · skip
                  obtain rfl : k = 23 := by omega
                  exact pm_ck23
          · skip
            by_cases h24_33 : k < 28
            · skip
              by_cases h24_28 : k < 26
              · skip
                by_cases h24_26 : k < 25
                · skip
                  obtain rfl : k = 24 := by omega
                  exact pm_ck24
                · skip
                  obtain rfl : k = 25 := by omega
                  exact pm_ck25
              · skip
                by_cases h26_28 : k < 27
                · skip
                  obtain rfl : k = 26 := by omega
                  exact pm_ck26
                · skip
                  obtain rfl : k = 27 := by omega
                  exact pm_ck27
            · skip
              by_cases h28_33 : k < 30
              · skip
                by_cases h28_30 : k < 29
                · skip
                  obtain rfl : k = 28 := by omega
                  exact pm_ck28
                · skip
                  obtain rfl : k = 29 := by omega
                  exact pm_ck29
              · skip
                by_cases h30_33 : k < 31
                · skip
                  obtain rfl : k = 30 := by omega
                  exact pm_ck30
                · skip
                  by_cases h31_33 : k < 32
                  · skip
                    obtain rfl : k = 31 := by omega
                    exact pm_ck31
                  · skip
                    obtain rfl : k = 32 := by omega
                    exact pm_ck32
      · skip
        by_cases h33_66 : k < 49
        · skip
          by_cases h33_49 : k < 41
          · skip
            by_cases h33_41 : k < 37
            · skip
              by_cases h33_37 : k < 35
              · skip
                by_cases h33_35 : k < 34
                · skip
                  obtain rfl : k = 33 := by omega
                  exact pm_ck33
                · skip
                  obtain rfl : k = 34 := by omega
                  exact pm_ck34
              · skip
                by_cases h35_37 : k < 36
                · skip
                  obtain rfl : k = 35 := by omega
                  exact pm_ck35
                · skip
                  obtain rfl : k = 36 := by omega
                  exact pm_ck36
            · skip
              by_cases h37_41 : k < 39
              · skip
                by_cases h37_39 : k < 38
                · skip
                  obtain rfl : k = 37 := by omega
                  exact pm_ck37
                · skip
                  obtain rfl : k = 38 := by omega
                  exact pm_ck38
              · skip
                by_cases h39_41 : k < 40
                · skip
                  obtain rfl : k = 39 := by omega
                  exact pm_ck39
                · skip
                  obtain rfl : k = 40 := by omega
                  exact pm_ck40
          · skip
            by_cases h41_49 : k < 45
            · skip
              by_cases h41_45 : k < 43
              · skip
                by_cases h41_43 : k < 42
                · skip
                  obtain rfl : k = 41 := by omega
                  exact pm_ck41
                · skip
                  obtain rfl : k = 42 := by omega
                  exact pm_ck42
              · skip
                by_cases h43_45 : k < 44
                · skip
                  obtain rfl : k = 43 := by omega
                  exact pm_ck43
                · skip
                  obtain rfl : k = 44 := by omega
                  exact pm_ck44
            · skip
              by_cases h45_49 : k < 47
              · skip
                by_cases h45_47 : k < 46
                · skip
                  obtain rfl : k = 45 := by omega
                  exact pm_ck45
                · skip
                  obtain rfl : k = 46 := by omega
                  exact pm_ck46
              · skip
                by_cases h47_49 : k < 48
                · skip
                  obtain rfl : k = 47 := by omega
                  exact pm_ck47
                · skip
                  obtain rfl : k = 48 := by omega
                  exact pm_ck48
        · skip
          by_cases h49_66 : k < 57
          · skip
            by_cases h49_57 : k < 53
            · skip
              by_cases h49_53 : k < 51
              · skip
                by_cases h49_51 : k < 50
                · skip
                  obtain rfl : k = 49 := by omega
                  exact pm_ck49
                · skip
                  obtain rfl : k = 50 := by omega
                  exact pm_ck50
              · skip
                by_cases h51_53 : k < 52
                · skip
                  obtain rfl : k = 51 := by omega
                  exact pm_ck51
                · skip
                  obtain rfl : k = 52 := by omega
                  exact pm_ck52
            · skip
              by_cases h53_57 : k < 55
              · skip
                by_cases h53_55 : k < 54
                · skip
                  obtain rfl : k = 53 := by omega
                  exact pm_ck53
                · skip
                  obtain rfl : k = 54 := by omega
                  exact pm_ck54
              · skip
                by_cases h55_57 : k < 56
                · skip
                  obtain rfl : k = 55 := by omega
                  exact pm_ck55
                · skip
                  obtain rfl : k = 56 := by omega
                  exact pm_ck56
          · skip
            by_cases h57_66 : k < 61
            · skip
              by_cases h57_61 : k < 59
              · skip
                by_cases h57_59 : k < 58
                · skip
                  obtain rfl : k = 57 := by omega
                  exact pm_ck57
                · skip
                  obtain rfl : k = 58 := by omega
                  exact pm_ck58
              · skip
                by_cases h59_61 : k < 60
                · skip
                  obtain rfl : k = 59 := by omega
                  exact pm_ck59
                · skip
                  obtain rfl : k = 60 := by omega
                  exact pm_ck60
            · skip
              by_cases h61_66 : k < 63
              · skip
                by_cases h61_63 : k < 62
                · skip
                  obtain rfl : k = 61 := by omega
                  exact pm_ck61
                · skip
                  obtain rfl : k = 62 := by omega
                  exact pm_ck62
              · skip
                by_cases h63_66 : k < 64
                · skip
                  obtain rfl : k = 63 := by omega
                  exact pm_ck63
                · skip
                  by_cases h64_66 : k < 65
                  · skip
                    obtain rfl : k = 64 := by omega
                    exact pm_ck64
                  · skip
                    obtain rfl : k = 65 := by omega
                    exact pm_ck65
    · skip
      by_cases h66_132 : k < 99
      · skip
        by_cases h66_99 : k < 82
        · skip
          by_cases h66_82 : k < 74
          · skip
            by_cases h66_74 : k < 70
            · skip
              by_cases h66_70 : k < 68
              · skip
                by_cases h66_68 : k < 67
                · skip
                  obtain rfl : k = 66 := by omega
                  exact pm_ck66
                · skip
                  obtain rfl : k = 67 := by omega
                  exact pm_ck67
              · skip
                by_cases h68_70 : k < 69
                · skip
                  obtain rfl : k = 68 := by omega
                  exact pm_ck68
                · skip
                  obtain rfl : k = 69 := by omega
                  exact pm_ck69
            · skip
              by_cases h70_74 : k < 72
              · skip
                by_cases h70_72 : k < 71
                · skip
                  obtain rfl : k = 70 := by omega
                  exact pm_ck70
                · skip
                  obtain rfl : k = 71 := by omega
                  exact pm_ck71
              · skip
                by_cases h72_74 : k < 73
                · skip
                  obtain rfl : k = 72 := by omega
                  exact pm_ck72
                · skip
                  obtain rfl : k = 73 := by omega
                  exact pm_ck73
          · skip
            by_cases h74_82 : k < 78
            · skip
              by_cases h74_78 : k < 76
              · skip
                by_cases h74_76 : k < 75
                · skip
                  obtain rfl : k = 74 := by omega
                  exact pm_ck74
                · skip
                  obtain rfl : k = 75 := by omega
                  exact pm_ck75
              · skip
                by_cases h76_78 : k < 77
                · skip
                  obtain rfl : k = 76 := by omega
                  exact pm_ck76
                · skip
                  obtain rfl : k = 77 := by omega
                  exact pm_ck77
            · skip
              by_cases h78_82 : k < 80
              · skip
                by_cases h78_80 : k < 79
                · skip
                  obtain rfl : k = 78 := by omega
                  exact pm_ck78
                · skip
                  obtain rfl : k = 79 := by omega
                  exact pm_ck79
              · skip
                by_cases h80_82 : k < 81
                · skip
                  obtain rfl : k = 80 := by omega
                  exact pm_ck80
                · skip
                  obtain rfl : k = 81 := by omega
                  exact pm_ck81
        · skip
          by_cases h82_99 : k < 90
          · skip
            by_cases h82_90 : k < 86
            · skip
              by_cases h82_86 : k < 84
              · skip
                by_cases h82_84 : k < 83
                · skip
                  obtain rfl : k = 82 := by omega
                  exact pm_ck82
                · skip
                  obtain rfl : k = 83 := by omega
                  exact pm_ck83
              · skip
                by_cases h84_86 : k < 85
                · skip
                  obtain rfl : k = 84 := by omega
                  exact pm_ck84
                · skip
                  obtain rfl : k = 85 := by omega
                  exact pm_ck85
            · skip
              by_cases h86_90 : k < 88
              · skip
                by_cases h86_88 : k < 87
                · skip
                  obtain rfl : k = 86 := by omega
                  exact pm_ck86
                · skip
                  obtain rfl : k = 87 := by omega
                  exact pm_ck87
              · skip
                by_cases h88_90 : k < 89
                · skip
                  obtain rfl : k = 88 := by omega
                  exact pm_ck88
                · skip
                  obtain rfl : k = 89 := by omega
                  exact pm_ck89
          · skip
            by_cases h90_99 : k < 94
            · skip
              by_cases h90_94 : k < 92
              · skip
                by_cases h90_92 : k < 91
                · skip
                  obtain rfl : k = 90 := by omega
                  exact pm_ck90
                · skip
                  obtain rfl : k = 91 := by omega
                  exact pm_ck91
              · skip
                by_cases h92_94 : k < 93
                · skip
                  obtain rfl : k = 92 := by omega
                  exact pm_ck92
                · skip
                  obtain rfl : k = 93 := by omega
                  exact pm_ck93
            · skip
              by_cases h94_99 : k < 96
              · skip
                by_cases h94_96 : k < 95
                · skip
                  obtain rfl : k = 94 := by omega
                  exact pm_ck94
                · skip
                  obtain rfl : k = 95 := by omega
                  exact pm_ck95
              · skip
                by_cases h96_99 : k < 97
                · skip
                  obtain rfl : k = 96 := by omega
                  exact pm_ck96
                · skip
                  by_cases h97_99 : k < 98
                  · skip
                    obtain rfl : k = 97 := by omega
                    exact pm_ck97
                  · skip
                    obtain rfl : k = 98 := by omega
                    exact pm_ck98
      · skip
        by_cases h99_132 : k < 115
        · skip
          by_cases h99_115 : k < 107
          · skip
            by_cases h99_107 : k < 103
            · skip
              by_cases h99_103 : k < 101
              · skip
                by_cases h99_101 : k < 100
                · skip
                  obtain rfl : k = 99 := by omega
                  exact pm_ck99
                · skip
                  obtain rfl : k = 100 := by omega
                  exact pm_ck100
              · skip
                by_cases h101_103 : k < 102
                · skip
                  obtain rfl : k = 101 := by omega
                  exact pm_ck101
                · skip
                  obtain rfl : k = 102 := by omega
                  exact pm_ck102
            · skip
              by_cases h103_107 : k < 105
              · skip
                by_cases h103_105 : k < 104
                · skip
                  obtain rfl : k = 103 := by omega
                  exact pm_ck103
                · skip
                  obtain rfl : k = 104 := by omega
                  exact pm_ck104
              · skip
                by_cases h105_107 : k < 106
                · skip
                  obtain rfl : k = 105 := by omega
                  exact pm_ck105
                · skip
                  obtain rfl : k = 106 := by omega
                  exact pm_ck106
          · skip
            by_cases h107_115 : k < 111
            · skip
              by_cases h107_111 : k < 109
              · skip
                by_cases h107_109 : k < 108
                · skip
                  obtain rfl : k = 107 := by omega
                  exact pm_ck107
                · skip
                  obtain rfl : k = 108 := by omega
                  exact pm_ck108
              · skip
                by_cases h109_111 : k < 110
                · skip
                  obtain rfl : k = 109 := by omega
                  exact pm_ck109
                · skip
                  obtain rfl : k = 110 := by omega
                  exact pm_ck110
            · skip
              by_cases h111_115 : k < 113
              · skip
                by_cases h111_113 : k < 112
                · skip
                  obtain rfl : k = 111 := by omega
                  exact pm_ck111
                · skip
                  obtain rfl : k = 112 := by omega
                  exact pm_ck112
              · skip
                by_cases h113_115 : k < 114
                · skip
                  obtain rfl : k = 113 := by omega
                  exact pm_ck113
                · skip
                  obtain rfl : k = 114 := by omega
                  exact pm_ck114
        · skip
          by_cases h115_132 : k < 123
          · skip
            by_cases h115_123 : k < 119
            · skip
              by_cases h115_119 : k < 117
              · skip
                by_cases h115_117 : k < 116
                · skip
                  obtain rfl : k = 115 := by omega
                  exact pm_ck115
                · skip
                  obtain rfl : k = 116 := by omega
                  exact pm_ck116
              · skip
                by_cases h117_119 : k < 118
                · skip
                  obtain rfl : k = 117 := by omega
                  exact pm_ck117
                · skip
                  obtain rfl : k = 118 := by omega
                  exact pm_ck118
            · skip
              by_cases h119_123 : k < 121
              · skip
                by_cases h119_121 : k < 120
                · skip
                  obtain rfl : k = 119 := by omega
                  exact pm_ck119
                · skip
                  obtain rfl : k = 120 := by omega
                  exact pm_ck120
              · skip
                by_cases h121_123 : k < 122
                · skip
                  obtain rfl : k = 121 := by omega
                  exact pm_ck121
                · skip
                  obtain rfl : k = 122 := by omega
                  exact pm_ck122
          · skip
            by_cases h123_132 : k < 127
            · skip
              by_cases h123_127 : k < 125
              · skip
                by_cases h123_125 : k < 124
                · skip
                  obtain rfl : k = 123 := by omega
                  exact pm_ck123
                · skip
                  obtain rfl : k = 124 := by omega
                  exact pm_ck124
              · skip
                by_cases h125_127 : k < 126
                · skip
                  obtain rfl : k = 125 := by omega
                  exact pm_ck125
                · skip
                  obtain rfl : k = 126 := by omega
                  exact pm_ck126
            · skip
              by_cases h127_132 : k < 129
              · skip
                by_cases h127_129 : k < 128
                · skip
                  obtain rfl : k = 127 := by omega
                  exact pm_ck127
                · skip
                  obtain rfl : k = 128 := by omega
                  exact pm_ck128
              · skip
                by_cases h129_132 : k < 130
                · skip
                  obtain rfl : k = 129 := by omega
                  exact pm_ck129
                · skip
                  by_cases h130_132 : k < 131
                  · skip
                    obtain rfl : k = 130 := by omega
                    exact pm_ck130
                  · skip
                    obtain rfl : k = 131 := by omega
                    exact pm_ck131
  · skip
    by_cases h132_264 : k < 198
    · skip
      by_cases h132_198 : k < 165
      · skip
        by_cases h132_165 : k < 148
        · skip
          by_cases h132_148 : k < 140
          · skip
            by_cases h132_140 : k < 136
            · skip
              by_cases h132_136 : k < 134
              · skip
                by_cases h132_134 : k < 133
                · skip
                  obtain rfl : k = 132 := by omega
                  exact pm_ck132
                · skip
                  obtain rfl : k = 133 := by omega
                  exact pm_ck133
              · skip
                by_cases h134_136 : k < 135
                · skip
                  obtain rfl : k = 134 := by omega
                  exact pm_ck134
                · skip
                  obtain rfl : k = 135 := by omega
                  exact pm_ck135
            · skip
              by_cases h136_140 : k < 138
              · skip
                by_cases h136_138 : k < 137
                · skip
                  obtain rfl : k = 136 := by omega
                  exact pm_ck136
                · skip
                  obtain rfl : k = 137 := by omega
                  exact pm_ck137
              · skip
                by_cases h138_140 : k < 139
                · skip
                  obtain rfl : k = 138 := by omega
                  exact pm_ck138
                · skip
                  obtain rfl : k = 139 := by omega
                  exact pm_ck139
          · skip
            by_cases h140_148 : k < 144
            · skip
              by_cases h140_144 : k < 142
              · skip
                by_cases h140_142 : k < 141
                · skip
                  obtain rfl : k = 140 := by omega
                  exact pm_ck140
                · skip
                  obtain rfl : k = 141 := by omega
                  exact pm_ck141
              · skip
                by_cases h142_144 : k < 143
                · skip
                  obtain rfl : k = 142 := by omega
                  exact pm_ck142
                · skip
                  obtain rfl : k = 143 := by omega
                  exact pm_ck143
            · skip
              by_cases h144_148 : k < 146
              · skip
                by_cases h144_146 : k < 145
                · skip
                  obtain rfl : k = 144 := by omega
                  exact pm_ck144
                · skip
                  obtain rfl : k = 145 := by omega
                  exact pm_ck145
              · skip
                by_cases h146_148 : k < 147
                · skip
                  obtain rfl : k = 146 := by omega
                  exact pm_ck146
                · skip
                  obtain rfl : k = 147 := by omega
                  exact pm_ck147
        · skip
          by_cases h148_165 : k < 156
          · skip
            by_cases h148_156 : k < 152
            · skip
              by_cases h148_152 : k < 150
              · skip
                by_cases h148_150 : k < 149
                · skip
                  obtain rfl : k = 148 := by omega
                  exact pm_ck148
                · skip
                  obtain rfl : k = 149 := by omega
                  exact pm_ck149
              · skip
                by_cases h150_152 : k < 151
                · skip
                  obtain rfl : k = 150 := by omega
                  exact pm_ck150
                · skip
                  obtain rfl : k = 151 := by omega
                  exact pm_ck151
            · skip
              by_cases h152_156 : k < 154
              · skip
                by_cases h152_154 : k < 153
                · skip
                  obtain rfl : k = 152 := by omega
                  exact pm_ck152
                · skip
                  obtain rfl : k = 153 := by omega
                  exact pm_ck153
              · skip
                by_cases h154_156 : k < 155
                · skip
                  obtain rfl : k = 154 := by omega
                  exact pm_ck154
                · skip
                  obtain rfl : k = 155 := by omega
                  exact pm_ck155
          · skip
            by_cases h156_165 : k < 160
            · skip
              by_cases h156_160 : k < 158
              · skip
                by_cases h156_158 : k < 157
                · skip
                  obtain rfl : k = 156 := by omega
                  exact pm_ck156
                · skip
                  obtain rfl : k = 157 := by omega
                  exact pm_ck157
              · skip
                by_cases h158_160 : k < 159
                · skip
                  obtain rfl : k = 158 := by omega
                  exact pm_ck158
                · skip
                  obtain rfl : k = 159 := by omega
                  exact pm_ck159
            · skip
              by_cases h160_165 : k < 162
              · skip
                by_cases h160_162 : k < 161
                · skip
                  obtain rfl : k = 160 := by omega
                  exact pm_ck160
                · skip
                  obtain rfl : k = 161 := by omega
                  exact pm_ck161
              · skip
                by_cases h162_165 : k < 163
                · skip
                  obtain rfl : k = 162 := by omega
                  exact pm_ck162
                · skip
                  by_cases h163_165 : k < 164
                  · skip
                    obtain rfl : k = 163 := by omega
                    exact pm_ck163
                  · skip
                    obtain rfl : k = 164 := by omega
                    exact pm_ck164
      · skip
        by_cases h165_198 : k < 181
        · skip
          by_cases h165_181 : k < 173
          · skip
            by_cases h165_173 : k < 169
            · skip
              by_cases h165_169 : k < 167
              · skip
                by_cases h165_167 : k < 166
                · skip
                  obtain rfl : k = 165 := by omega
                  exact pm_ck165
                · skip
                  obtain rfl : k = 166 := by omega
                  exact pm_ck166
              · skip
                by_cases h167_169 : k < 168
                · skip
                  obtain rfl : k = 167 := by omega
                  exact pm_ck167
                · skip
                  obtain rfl : k = 168 := by omega
                  exact pm_ck168
            · skip
              by_cases h169_173 : k < 171
              · skip
                by_cases h169_171 : k < 170
                · skip
                  obtain rfl : k = 169 := by omega
                  exact pm_ck169
                · skip
                  obtain rfl : k = 170 := by omega
                  exact pm_ck170
              · skip
                by_cases h171_173 : k < 172
                · skip
                  obtain rfl : k = 171 := by omega
                  exact pm_ck171
                · skip
                  obtain rfl : k = 172 := by omega
                  exact pm_ck172
          · skip
            by_cases h173_181 : k < 177
            · skip
              by_cases h173_177 : k < 175
              · skip
                by_cases h173_175 : k < 174
                · skip
                  obtain rfl : k = 173 := by omega
                  exact pm_ck173
                · skip
                  obtain rfl : k = 174 := by omega
                  exact pm_ck174
              · skip
                by_cases h175_177 : k < 176
                · skip
                  obtain rfl : k = 175 := by omega
                  exact pm_ck175
                · skip
                  obtain rfl : k = 176 := by omega
                  exact pm_ck176
            · skip
              by_cases h177_181 : k < 179
              · skip
                by_cases h177_179 : k < 178
                · skip
                  obtain rfl : k = 177 := by omega
                  exact pm_ck177
                · skip
                  obtain rfl : k = 178 := by omega
                  exact pm_ck178
              · skip
                by_cases h179_181 : k < 180
                · skip
                  obtain rfl : k = 179 := by omega
                  exact pm_ck179
                · skip
                  obtain rfl : k = 180 := by omega
                  exact pm_ck180
        · skip
          by_cases h181_198 : k < 189
          · skip
            by_cases h181_189 : k < 185
            · skip
              by_cases h181_185 : k < 183
              · skip
                by_cases h181_183 : k < 182
                · skip
                  obtain rfl : k = 181 := by omega
                  exact pm_ck181
                · skip
                  obtain rfl : k = 182 := by omega
                  exact pm_ck182
              · skip
                by_cases h183_185 : k < 184
                · skip
                  obtain rfl : k = 183 := by omega
                  exact pm_ck183
                · skip
                  obtain rfl : k = 184 := by omega
                  exact pm_ck184
            · skip
              by_cases h185_189 : k < 187
              · skip
                by_cases h185_187 : k < 186
                · skip
                  obtain rfl : k = 185 := by omega
                  exact pm_ck185
                · skip
                  obtain rfl : k = 186 := by omega
                  exact pm_ck186
              · skip
                by_cases h187_189 : k < 188
                · skip
                  obtain rfl : k = 187 := by omega
                  exact pm_ck187
                · skip
                  obtain rfl : k = 188 := by omega
                  exact pm_ck188
          · skip
            by_cases h189_198 : k < 193
            · skip
              by_cases h189_193 : k < 191
              · skip
                by_cases h189_191 : k < 190
                · skip
                  obtain rfl : k = 189 := by omega
                  exact pm_ck189
                · skip
                  obtain rfl : k = 190 := by omega
                  exact pm_ck190
              · skip
                by_cases h191_193 : k < 192
                · skip
                  obtain rfl : k = 191 := by omega
                  exact pm_ck191
                · skip
                  obtain rfl : k = 192 := by omega
                  exact pm_ck192
            · skip
              by_cases h193_198 : k < 195
              · skip
                by_cases h193_195 : k < 194
                · skip
                  obtain rfl : k = 193 := by omega
                  exact pm_ck193
                · skip
                  obtain rfl : k = 194 := by omega
                  exact pm_ck194
              · skip
                by_cases h195_198 : k < 196
                · skip
                  obtain rfl : k = 195 := by omega
                  exact pm_ck195
                · skip
                  by_cases h196_198 : k < 197
                  · skip
                    obtain rfl : k = 196 := by omega
                    exact pm_ck196
                  · skip
                    obtain rfl : k = 197 := by omega
                    exact pm_ck197
    · skip
      by_cases h198_264 : k < 231
      · skip
        by_cases h198_231 : k < 214
        · skip
          by_cases h198_214 : k < 206
          · skip
            by_cases h198_206 : k < 202
            · skip
              by_cases h198_202 : k < 200
              · skip
                by_cases h198_200 : k < 199
                · skip
                  obtain rfl : k = 198 := by omega
                  exact pm_ck198
                · skip
                  obtain rfl : k = 199 := by omega
                  exact pm_ck199
              · skip
                by_cases h200_202 : k < 201
                · skip
                  obtain rfl : k = 200 := by omega
                  exact pm_ck200
                · skip
                  obtain rfl : k = 201 := by omega
                  exact pm_ck201
            · skip
              by_cases h202_206 : k < 204
              · skip
                by_cases h202_204 : k < 203
                · skip
                  obtain rfl : k = 202 := by omega
                  exact pm_ck202
                · skip
                  obtain rfl : k = 203 := by omega
                  exact pm_ck203
              · skip
                by_cases h204_206 : k < 205
                · skip
                  obtain rfl : k = 204 := by omega
                  exact pm_ck204
                · skip
                  obtain rfl : k = 205 := by omega
                  exact pm_ck205
          · skip
            by_cases h206_214 : k < 210
            · skip
              by_cases h206_210 : k < 208
              · skip
                by_cases h206_208 : k < 207
                · skip
                  obtain rfl : k = 206 := by omega
                  exact pm_ck206
                · skip
                  obtain rfl : k = 207 := by omega
                  exact pm_ck207
              · skip
                by_cases h208_210 : k < 209
                · skip
                  obtain rfl : k = 208 := by omega
                  exact pm_ck208
                · skip
                  obtain rfl : k = 209 := by omega
                  exact pm_ck209
            · skip
              by_cases h210_214 : k < 212
              · skip
                by_cases h210_212 : k < 211
                · skip
                  obtain rfl : k = 210 := by omega
                  exact pm_ck210
                · skip
                  obtain rfl : k = 211 := by omega
                  exact pm_ck211
              · skip
                by_cases h212_214 : k < 213
                · skip
                  obtain rfl : k = 212 := by omega
                  exact pm_ck212
                · skip
                  obtain rfl : k = 213 := by omega
                  exact pm_ck213
        · skip
          by_cases h214_231 : k < 222
          · skip
            by_cases h214_222 : k < 218
            · skip
              by_cases h214_218 : k < 216
              · skip
                by_cases h214_216 : k < 215
                · skip
                  obtain rfl : k = 214 := by omega
                  exact pm_ck214
                · skip
                  obtain rfl : k = 215 := by omega
                  exact pm_ck215
              · skip
                by_cases h216_218 : k < 217
                · skip
                  obtain rfl : k = 216 := by omega
                  exact pm_ck216
                · skip
                  obtain rfl : k = 217 := by omega
                  exact pm_ck217
            · skip
              by_cases h218_222 : k < 220
              · skip
                by_cases h218_220 : k < 219
                · skip
                  obtain rfl : k = 218 := by omega
                  exact pm_ck218
                · skip
                  obtain rfl : k = 219 := by omega
                  exact pm_ck219
              · skip
                by_cases h220_222 : k < 221
                · skip
                  obtain rfl : k = 220 := by omega
                  exact pm_ck220
                · skip
                  obtain rfl : k = 221 := by omega
                  exact pm_ck221
          · skip
            by_cases h222_231 : k < 226
            · skip
              by_cases h222_226 : k < 224
              · skip
                by_cases h222_224 : k < 223
                · skip
                  obtain rfl : k = 222 := by omega
                  exact pm_ck222
                · skip
                  obtain rfl : k = 223 := by omega
                  exact pm_ck223
              · skip
                by_cases h224_226 : k < 225
                · skip
                  obtain rfl : k = 224 := by omega
                  exact pm_ck224
                · skip
                  obtain rfl : k = 225 := by omega
                  exact pm_ck225
            · skip
              by_cases h226_231 : k < 228
              · skip
                by_cases h226_228 : k < 227
                · skip
                  obtain rfl : k = 226 := by omega
                  exact pm_ck226
                · skip
                  obtain rfl : k = 227 := by omega
                  exact pm_ck227
              · skip
                by_cases h228_231 : k < 229
                · skip
                  obtain rfl : k = 228 := by omega
                  exact pm_ck228
                · skip
                  by_cases h229_231 : k < 230
                  · skip
                    obtain rfl : k = 229 := by omega
                    exact pm_ck229
                  · skip
                    obtain rfl : k = 230 := by omega
                    exact pm_ck230
      · skip
        by_cases h231_264 : k < 247
        · skip
          by_cases h231_247 : k < 239
          · skip
            by_cases h231_239 : k < 235
            · skip
              by_cases h231_235 : k < 233
              · skip
                by_cases h231_233 : k < 232
                · skip
                  obtain rfl : k = 231 := by omega
                  exact pm_ck231
                · skip
                  obtain rfl : k = 232 := by omega
                  exact pm_ck232
              · skip
                by_cases h233_235 : k < 234
                · skip
                  obtain rfl : k = 233 := by omega
                  exact pm_ck233
                · skip
                  obtain rfl : k = 234 := by omega
                  exact pm_ck234
            · skip
              by_cases h235_239 : k < 237
              · skip
                by_cases h235_237 : k < 236
                · skip
                  obtain rfl : k = 235 := by omega
                  exact pm_ck235
                · skip
                  obtain rfl : k = 236 := by omega
                  exact pm_ck236
              · skip
                by_cases h237_239 : k < 238
                · skip
                  obtain rfl : k = 237 := by omega
                  exact pm_ck237
                · skip
                  obtain rfl : k = 238 := by omega
                  exact pm_ck238
          · skip
            by_cases h239_247 : k < 243
            · skip
              by_cases h239_243 : k < 241
              · skip
                by_cases h239_241 : k < 240
                · skip
                  obtain rfl : k = 239 := by omega
                  exact pm_ck239
                · skip
                  obtain rfl : k = 240 := by omega
                  exact pm_ck240
              · skip
                by_cases h241_243 : k < 242
                · skip
                  obtain rfl : k = 241 := by omega
                  exact pm_ck241
                · skip
                  obtain rfl : k = 242 := by omega
                  exact pm_ck242
            · skip
              by_cases h243_247 : k < 245
              · skip
                by_cases h243_245 : k < 244
                · skip
                  obtain rfl : k = 243 := by omega
                  exact pm_ck243
                · skip
                  obtain rfl : k = 244 := by omega
                  exact pm_ck244
              · skip
                by_cases h245_247 : k < 246
                · skip
                  obtain rfl : k = 245 := by omega
                  exact pm_ck245
                · skip
                  obtain rfl : k = 246 := by omega
                  exact pm_ck246
        · skip
          by_cases h247_264 : k < 255
          · skip
            by_cases h247_255 : k < 251
            · skip
              by_cases h247_251 : k < 249
              · skip
                by_cases h247_249 : k < 248
                · skip
                  obtain rfl : k = 247 := by omega
                  exact pm_ck247
                · skip
                  obtain rfl : k = 248 := by omega
                  exact pm_ck248
              · skip
                by_cases h249_251 : k < 250
                · skip
                  obtain rfl : k = 249 := by omega
                  exact pm_ck249
                · skip
                  obtain rfl : k = 250 := by omega
                  exact pm_ck250
            · skip
              by_cases h251_255 : k < 253
              · skip
                by_cases h251_253 : k < 252
                · skip
                  obtain rfl : k = 251 := by omega
                  exact pm_ck251
                · skip
                  obtain rfl : k = 252 := by omega
                  exact pm_ck252
              · skip
                by_cases h253_255 : k < 254
                · skip
                  obtain rfl : k = 253 := by omega
                  exact pm_ck253
                · skip
                  obtain rfl : k = 254 := by omega
                  exact pm_ck254
          · skip
            by_cases h255_264 : k < 259
            · skip
              by_cases h255_259 : k < 257
              · skip
                by_cases h255_257 : k < 256
                · skip
                  obtain rfl : k = 255 := by omega
                  exact pm_ck255
                · skip
                  obtain rfl : k = 256 := by omega
                  exact pm_ck256
              · skip
                by_cases h257_259 : k < 258
                · skip
                  obtain rfl : k = 257 := by omega
                  exact pm_ck257
                · skip
                  obtain rfl : k = 258 := by omega
                  exact pm_ck258
            · skip
              by_cases h259_264 : k < 261
              · skip
                by_cases h259_261 : k < 260
                · skip
                  obtain rfl : k = 259 := by omega
                  exact pm_ck259
                · skip
                  obtain rfl : k = 260 := by omega
                  exact pm_ck260
              · skip
                by_cases h261_264 : k < 262
                · skip
                  obtain rfl : k = 261 := by omega
                  exact pm_ck261
                · skip
                  by_cases h262_264 : k < 263
                  · skip
                    obtain rfl : k = 262 := by omega
                    exact pm_ck262
                  · skip
                    obtain rfl : k = 263 := by omega
                    exact pm_ck263
theorem pm_tb0 {w : Cond} (h : w ∈ tables_1_1) : w ∈ lw_tbl := List.mem_append_right _ (show w ∈ tables_1 from List.mem_append_left _ h)
theorem pm_tb1 {w : Cond} (h : w ∈ tables_1_2) : w ∈ lw_tbl := List.mem_append_right _ (show w ∈ tables_1 from List.mem_append_right _ (List.mem_append_left _ h))
theorem pm_tb2 {w : Cond} (h : w ∈ tables_1_3) : w ∈ lw_tbl := List.mem_append_right _ (show w ∈ tables_1 from List.mem_append_right _ (List.mem_append_right _ (List.mem_append_left _ h)))
theorem pm_tb3 {w : Cond} (h : w ∈ tables_1_4) : w ∈ lw_tbl := List.mem_append_right _ (show w ∈ tables_1 from List.mem_append_right _ (List.mem_append_right _ (List.mem_append_right _ (List.mem_append_left _ h))))
theorem pm_tb4 {w : Cond} (h : w ∈ tables_1_5) : w ∈ lw_tbl := List.mem_append_right _ (show w ∈ tables_1 from List.mem_append_right _ (List.mem_append_right _ (List.mem_append_right _ (List.mem_append_right _ (List.mem_append_left _ h)))))
theorem pm_tb5 {w : Cond} (h : w ∈ tables_1_6) : w ∈ lw_tbl := List.mem_append_right _ (show w ∈ tables_1 from List.mem_append_right _ (List.mem_append_right _ (List.mem_append_right _ (List.mem_append_right _ (List.mem_append_right _ (List.mem_append_left _ h))))))
theorem pm_tb6 {w : Cond} (h : w ∈ tables_1_7) : w ∈ lw_tbl := List.mem_append_right _ (show w ∈ tables_1 from List.mem_append_right _ (List.mem_append_right _ (List.mem_append_right _ (List.mem_append_right _ (List.mem_append_right _ (List.mem_append_right _ (h)))))))
theorem pm_cw0 : Cond.code (pm_y 0) (pm_c 0) (pm_n 0) (pm_r 0) ∈ lw_tbl := pm_tb0 (List.mem_of_getElem? (i := 60) (show tables_1_1[60]? = some (Cond.code yX0_init cX0_init 1 none) from rfl))
theorem pm_cw1 : Cond.code (pm_y 1) (pm_c 1) (pm_n 1) (pm_r 1) ∈ lw_tbl := pm_tb2 (List.mem_of_getElem? (i := 33) (show tables_1_3[33]? = some (Cond.code yX0_copyFrom cX0_copyFrom 2 none) from rfl))
theorem pm_cw2 : Cond.code (pm_y 2) (pm_c 2) (pm_n 2) (pm_r 2) ∈ lw_tbl := pm_tb1 (List.mem_of_getElem? (i := 232) (show tables_1_2[232]? = some (Cond.code yX0_beginFlat cX0_beginFlat 3 none) from rfl))
theorem pm_cw3 : Cond.code (pm_y 3) (pm_c 3) (pm_n 3) (pm_r 3) ∈ lw_tbl := pm_tb1 (List.mem_of_getElem? (i := 236) (show tables_1_2[236]? = some (Cond.code yX0_layOpen cX0_layOpen 2 none) from rfl))
theorem pm_cw4 : Cond.code (pm_y 4) (pm_c 4) (pm_n 4) (pm_r 4) ∈ lw_tbl := pm_tb3 (List.mem_of_getElem? (i := 39) (show tables_1_4[39]? = some (Cond.code yX0_liesOpen cX0_liesOpen 1 (some .boolean)) from rfl))
theorem pm_cw5 : Cond.code (pm_y 5) (pm_c 5) (pm_n 5) (pm_r 5) ∈ lw_tbl := pm_tb2 (List.mem_of_getElem? (i := 8) (show tables_1_3[8]? = some (Cond.code yX0_hasCell cX0_hasCell 2 (some .boolean)) from rfl))
theorem pm_cw6 : Cond.code (pm_y 6) (pm_c 6) (pm_n 6) (pm_r 6) ∈ lw_tbl := pm_tb2 (List.mem_of_getElem? (i := 156) (show tables_1_3[156]? = some (Cond.code yX0_hasJoint cX0_hasJoint 2 (some .boolean)) from rfl))
theorem pm_cw7 : Cond.code (pm_y 7) (pm_c 7) (pm_n 7) (pm_r 7) ∈ lw_tbl := pm_tb2 (List.mem_of_getElem? (i := 164) (show tables_1_3[164]? = some (Cond.code yX0_hasPerson cX0_hasPerson 2 (some .boolean)) from rfl))
theorem pm_cw8 : Cond.code (pm_y 8) (pm_c 8) (pm_n 8) (pm_r 8) ∈ lw_tbl := pm_tb2 (List.mem_of_getElem? (i := 180) (show tables_1_3[180]? = some (Cond.code yX0_hasFold cX0_hasFold 4 (some .boolean)) from rfl))
theorem pm_cw9 : Cond.code (pm_y 9) (pm_c 9) (pm_n 9) (pm_r 9) ∈ lw_tbl := pm_tb3 (List.mem_of_getElem? (i := 90) (show tables_1_4[90]? = some (Cond.code yX0_foldCount cX0_foldCount 1 (some .int)) from rfl))
theorem pm_cw10 : Cond.code (pm_y 10) (pm_c 10) (pm_n 10) (pm_r 10) ∈ lw_tbl := pm_tb2 (List.mem_of_getElem? (i := 168) (show tables_1_3[168]? = some (Cond.code yX0_cellsOf cX0_cellsOf 4 (some .int)) from rfl))
theorem pm_cw11 : Cond.code (pm_y 11) (pm_c 11) (pm_n 11) (pm_r 11) ∈ lw_tbl := pm_tb4 (List.mem_of_getElem? (i := 43) (show tables_1_5[43]? = some (Cond.code yX0_creasedJoints cX0_creasedJoints 3 (some .int)) from rfl))
theorem pm_cw12 : Cond.code (pm_y 12) (pm_c 12) (pm_n 12) (pm_r 12) ∈ lw_tbl := pm_tb2 (List.mem_of_getElem? (i := 209) (show tables_1_3[209]? = some (Cond.code yX0_moves cX0_moves 4 (some .boolean)) from rfl))
theorem pm_cw13 : Cond.code (pm_y 13) (pm_c 13) (pm_n 13) (pm_r 13) ∈ lw_tbl := pm_tb2 (List.mem_of_getElem? (i := 205) (show tables_1_3[205]? = some (Cond.code yX0_movedCells cX0_movedCells 4 (some .int)) from rfl))
theorem pm_cw14 : Cond.code (pm_y 14) (pm_c 14) (pm_n 14) (pm_r 14) ∈ lw_tbl := pm_tb2 (List.mem_of_getElem? (i := 201) (show tables_1_3[201]? = some (Cond.code yX0_kindMade cX0_kindMade 5 (some .int)) from rfl))
theorem pm_cw15 : Cond.code (pm_y 15) (pm_c 15) (pm_n 15) (pm_r 15) ∈ lw_tbl := pm_tb2 (List.mem_of_getElem? (i := 197) (show tables_1_3[197]? = some (Cond.code yX0_creasesAllow cX0_creasesAllow 4 (some .boolean)) from rfl))
theorem pm_cw16 : Cond.code (pm_y 16) (pm_c 16) (pm_n 16) (pm_r 16) ∈ lw_tbl := pm_tb3 (List.mem_of_getElem? (i := 94) (show tables_1_4[94]? = some (Cond.code yX0_keepsToMarks cX0_keepsToMarks 5 (some .boolean)) from rfl))
theorem pm_cw17 : Cond.code (pm_y 17) (pm_c 17) (pm_n 17) (pm_r 17) ∈ lw_tbl := pm_tb3 (List.mem_of_getElem? (i := 81) (show tables_1_4[81]? = some (Cond.code yX0_hasMarks cX0_hasMarks 3 (some .boolean)) from rfl))
theorem pm_cw18 : Cond.code (pm_y 18) (pm_c 18) (pm_n 18) (pm_r 18) ∈ lw_tbl := pm_tb3 (List.mem_of_getElem? (i := 14) (show tables_1_4[14]? = some (Cond.code yX0_lieFolded cX0_lieFolded 8 none) from rfl))
theorem pm_cw19 : Cond.code (pm_y 19) (pm_c 19) (pm_n 19) (pm_r 19) ∈ lw_tbl := pm_tb3 (List.mem_of_getElem? (i := 23) (show tables_1_4[23]? = some (Cond.code yX0_turnCell cX0_turnCell 9 none) from rfl))
theorem pm_cw20 : Cond.code (pm_y 20) (pm_c 20) (pm_n 20) (pm_r 20) ∈ lw_tbl := pm_tb3 (List.mem_of_getElem? (i := 27) (show tables_1_4[27]? = some (Cond.code yX0_layersOn cX0_layersOn 2 (some .int)) from rfl))
theorem pm_cw21 : Cond.code (pm_y 21) (pm_c 21) (pm_n 21) (pm_r 21) ∈ lw_tbl := pm_tb3 (List.mem_of_getElem? (i := 31) (show tables_1_4[31]? = some (Cond.code yX0_countThickness cX0_countThickness 2 none) from rfl))
theorem pm_cw22 : Cond.code (pm_y 22) (pm_c 22) (pm_n 22) (pm_r 22) ∈ lw_tbl := pm_tb0 (List.mem_of_getElem? (i := 54) (show tables_1_1[54]? = some (Cond.code yX1_init cX1_init 1 none) from rfl))
theorem pm_cw23 : Cond.code (pm_y 23) (pm_c 23) (pm_n 23) (pm_r 23) ∈ lw_tbl := pm_tb1 (List.mem_of_getElem? (i := 131) (show tables_1_2[131]? = some (Cond.code yX1_read cX1_read 3 (some .int)) from rfl))
theorem pm_cw24 : Cond.code (pm_y 24) (pm_c 24) (pm_n 24) (pm_r 24) ∈ lw_tbl := pm_tb1 (List.mem_of_getElem? (i := 147) (show tables_1_2[147]? = some (Cond.code yX1_readClause cX1_readClause 7 none) from rfl))
theorem pm_cw25 : Cond.code (pm_y 25) (pm_c 25) (pm_n 25) (pm_r 25) ∈ lw_tbl := pm_tb1 (List.mem_of_getElem? (i := 221) (show tables_1_2[221]? = some (Cond.code yX1_readCells cX1_readCells 3 none) from rfl))
theorem pm_cw26 : Cond.code (pm_y 26) (pm_c 26) (pm_n 26) (pm_r 26) ∈ lw_tbl := pm_tb2 (List.mem_of_getElem? (i := 0) (show tables_1_3[0]? = some (Cond.code yX1_readPerson cX1_readPerson 3 none) from rfl))
theorem pm_cw27 : Cond.code (pm_y 27) (pm_c 27) (pm_n 27) (pm_r 27) ∈ lw_tbl := pm_tb2 (List.mem_of_getElem? (i := 4) (show tables_1_3[4]? = some (Cond.code yX1_readPair cX1_readPair 6 none) from rfl))
theorem pm_cw28 : Cond.code (pm_y 28) (pm_c 28) (pm_n 28) (pm_r 28) ∈ lw_tbl := pm_tb0 (List.mem_of_getElem? (i := 239) (show tables_1_1[239]? = some (Cond.code yX2_init cX2_init 2 none) from rfl))
theorem pm_cw29 : Cond.code (pm_y 29) (pm_c 29) (pm_n 29) (pm_r 29) ∈ lw_tbl := pm_tb3 (List.mem_of_getElem? (i := 99) (show tables_1_4[99]? = some (Cond.code yX2_answer cX2_answer 2 (some .int)) from rfl))
theorem pm_cw30 : Cond.code (pm_y 30) (pm_c 30) (pm_n 30) (pm_r 30) ∈ lw_tbl := pm_tb3 (List.mem_of_getElem? (i := 72) (show tables_1_4[72]? = some (Cond.code yX2_seekMarks cX2_seekMarks 3 none) from rfl))
theorem pm_cw31 : Cond.code (pm_y 31) (pm_c 31) (pm_n 31) (pm_r 31) ∈ lw_tbl := pm_tb3 (List.mem_of_getElem? (i := 77) (show tables_1_4[77]? = some (Cond.code yX2_seekMarksFrom cX2_seekMarksFrom 6 none) from rfl))
theorem pm_cw32 : Cond.code (pm_y 32) (pm_c 32) (pm_n 32) (pm_r 32) ∈ lw_tbl := pm_tb3 (List.mem_of_getElem? (i := 85) (show tables_1_4[85]? = some (Cond.code yX2_keepRow cX2_keepRow 2 none) from rfl))
theorem pm_cw33 : Cond.code (pm_y 33) (pm_c 33) (pm_n 33) (pm_r 33) ∈ lw_tbl := pm_tb3 (List.mem_of_getElem? (i := 194) (show tables_1_4[194]? = some (Cond.code yX2_seekOwned cX2_seekOwned 7 none) from rfl))
theorem pm_cw34 : Cond.code (pm_y 34) (pm_c 34) (pm_n 34) (pm_r 34) ∈ lw_tbl := pm_tb3 (List.mem_of_getElem? (i := 200) (show tables_1_4[200]? = some (Cond.code yX2_ownsBy cX2_ownsBy 12 (some .boolean)) from rfl))
theorem pm_cw35 : Cond.code (pm_y 35) (pm_c 35) (pm_n 35) (pm_r 35) ∈ lw_tbl := pm_tb0 (List.mem_of_getElem? (i := 217) (show tables_1_1[217]? = some (Cond.code yX3_init cX3_init 1 none) from rfl))
theorem pm_cw36 : Cond.code (pm_y 36) (pm_c 36) (pm_n 36) (pm_r 36) ∈ lw_tbl := pm_tb2 (List.mem_of_getElem? (i := 192) (show tables_1_3[192]? = some (Cond.code yX3_quote cX3_quote 9 (some .int)) from rfl))
theorem pm_cw37 : Cond.code (pm_y 37) (pm_c 37) (pm_n 37) (pm_r 37) ∈ lw_tbl := pm_tb2 (List.mem_of_getElem? (i := 219) (show tables_1_3[219]? = some (Cond.code yX3_priceOf cX3_priceOf 4 (some .int)) from rfl))
theorem pm_cw38 : Cond.code (pm_y 38) (pm_c 38) (pm_n 38) (pm_r 38) ∈ lw_tbl := pm_tb3 (List.mem_of_getElem? (i := 7) (show tables_1_4[7]? = some (Cond.code yX3_settle cX3_settle 6 none) from rfl))
theorem pm_cw39 : Cond.code (pm_y 39) (pm_c 39) (pm_n 39) (pm_r 39) ∈ lw_tbl := pm_tb0 (List.mem_of_getElem? (i := 198) (show tables_1_1[198]? = some (Cond.code yX4_init cX4_init 1 none) from rfl))
theorem pm_cw40 : Cond.code (pm_y 40) (pm_c 40) (pm_n 40) (pm_r 40) ∈ lw_tbl := pm_tb3 (List.mem_of_getElem? (i := 0) (show tables_1_4[0]? = some (Cond.code yX4_keep cX4_keep 2 none) from rfl))
theorem pm_cw41 : Cond.code (pm_y 41) (pm_c 41) (pm_n 41) (pm_r 41) ∈ lw_tbl := pm_tb3 (List.mem_of_getElem? (i := 56) (show tables_1_4[56]? = some (Cond.code yX4_bringBack cX4_bringBack 3 none) from rfl))
theorem pm_cw42 : Cond.code (pm_y 42) (pm_c 42) (pm_n 42) (pm_r 42) ∈ lw_tbl := pm_tb2 (List.mem_of_getElem? (i := 40) (show tables_1_3[40]? = some (Cond.code yX4_forget cX4_forget 1 none) from rfl))
theorem pm_cw43 : Cond.code (pm_y 43) (pm_c 43) (pm_n 43) (pm_r 43) ∈ lw_tbl := pm_tb2 (List.mem_of_getElem? (i := 127) (show tables_1_3[127]? = some (Cond.code yX5_init cX5_init 4 none) from rfl))
theorem pm_cw44 : Cond.code (pm_y 44) (pm_c 44) (pm_n 44) (pm_r 44) ∈ lw_tbl := pm_tb2 (List.mem_of_getElem? (i := 224) (show tables_1_3[224]? = some (Cond.code yX5_sumFor cX5_sumFor 7 (some .long)) from rfl))
theorem pm_cw45 : Cond.code (pm_y 45) (pm_c 45) (pm_n 45) (pm_r 45) ∈ lw_tbl := pm_tb2 (List.mem_of_getElem? (i := 227) (show tables_1_3[227]? = some (Cond.code yX5_wordAt cX5_wordAt 2 (some .long)) from rfl))
theorem pm_cw46 : Cond.code (pm_y 46) (pm_c 46) (pm_n 46) (pm_r 46) ∈ lw_tbl := pm_tb2 (List.mem_of_getElem? (i := 230) (show tables_1_3[230]? = some (Cond.code yX5_join cX5_join 5 (some .long)) from rfl))
theorem pm_cw47 : Cond.code (pm_y 47) (pm_c 47) (pm_n 47) (pm_r 47) ∈ lw_tbl := pm_tb0 (List.mem_of_getElem? (i := 138) (show tables_1_1[138]? = some (Cond.code yX6_init cX6_init 1 none) from rfl))
theorem pm_cw48 : Cond.code (pm_y 48) (pm_c 48) (pm_n 48) (pm_r 48) ∈ lw_tbl := pm_tb2 (List.mem_of_getElem? (i := 49) (show tables_1_3[49]? = some (Cond.code yX6_read cX6_read 3 (some .int)) from rfl))
theorem pm_cw49 : Cond.code (pm_y 49) (pm_c 49) (pm_n 49) (pm_r 49) ∈ lw_tbl := pm_tb2 (List.mem_of_getElem? (i := 122) (show tables_1_3[122]? = some (Cond.code yX6_made cX6_made 1 (some (.object "FoldDeeds$Rule"))) from rfl))
theorem pm_cw50 : Cond.code (pm_y 50) (pm_c 50) (pm_n 50) (pm_r 50) ∈ lw_tbl := pm_tb2 (List.mem_of_getElem? (i := 55) (show tables_1_3[55]? = some (Cond.code yX6_readClause cX6_readClause 4 none) from rfl))
theorem pm_cw51 : Cond.code (pm_y 51) (pm_c 51) (pm_n 51) (pm_r 51) ∈ lw_tbl := pm_tb2 (List.mem_of_getElem? (i := 100) (show tables_1_3[100]? = some (Cond.code yX6_readTest cX6_readTest 6 none) from rfl))
theorem pm_cw52 : Cond.code (pm_y 52) (pm_c 52) (pm_n 52) (pm_r 52) ∈ lw_tbl := pm_tb2 (List.mem_of_getElem? (i := 104) (show tables_1_3[104]? = some (Cond.code yX6_readFact cX6_readFact 7 none) from rfl))
theorem pm_cw53 : Cond.code (pm_y 53) (pm_c 53) (pm_n 53) (pm_r 53) ∈ lw_tbl := pm_tb2 (List.mem_of_getElem? (i := 110) (show tables_1_3[110]? = some (Cond.code yX6_takeComparison cX6_takeComparison 4 (some .int)) from rfl))
theorem pm_cw54 : Cond.code (pm_y 54) (pm_c 54) (pm_n 54) (pm_r 54) ∈ lw_tbl := pm_tb2 (List.mem_of_getElem? (i := 68) (show tables_1_3[68]? = some (Cond.code yX6_readSum cX6_readSum 5 none) from rfl))
theorem pm_cw55 : Cond.code (pm_y 55) (pm_c 55) (pm_n 55) (pm_r 55) ∈ lw_tbl := pm_tb2 (List.mem_of_getElem? (i := 95) (show tables_1_3[95]? = some (Cond.code yX6_takeTermSign cX6_takeTermSign 1 (some .int)) from rfl))
theorem pm_cw56 : Cond.code (pm_y 56) (pm_c 56) (pm_n 56) (pm_r 56) ∈ lw_tbl := pm_tb2 (List.mem_of_getElem? (i := 91) (show tables_1_3[91]? = some (Cond.code yX6_takeFactorSign cX6_takeFactorSign 1 (some .int)) from rfl))
theorem pm_cw57 : Cond.code (pm_y 57) (pm_c 57) (pm_n 57) (pm_r 57) ∈ lw_tbl := pm_tb2 (List.mem_of_getElem? (i := 72) (show tables_1_3[72]? = some (Cond.code yX6_readValue cX6_readValue 4 none) from rfl))
theorem pm_cw58 : Cond.code (pm_y 58) (pm_c 58) (pm_n 58) (pm_r 58) ∈ lw_tbl := pm_tb2 (List.mem_of_getElem? (i := 88) (show tables_1_3[88]? = some (Cond.code yX6_countItem cX6_countItem 3 none) from rfl))
theorem pm_cw59 : Cond.code (pm_y 59) (pm_c 59) (pm_n 59) (pm_r 59) ∈ lw_tbl := pm_tb2 (List.mem_of_getElem? (i := 82) (show tables_1_3[82]? = some (Cond.code yX6_addStep cX6_addStep 2 none) from rfl))
theorem pm_cw60 : Cond.code (pm_y 60) (pm_c 60) (pm_n 60) (pm_r 60) ∈ lw_tbl := pm_tb0 (List.mem_of_getElem? (i := 156) (show tables_1_1[156]? = some (Cond.code yX7_init cX7_init 1 none) from rfl))
theorem pm_cw61 : Cond.code (pm_y 61) (pm_c 61) (pm_n 61) (pm_r 61) ∈ lw_tbl := pm_tb2 (List.mem_of_getElem? (i := 29) (show tables_1_3[29]? = some (Cond.code yX7_begin cX7_begin 3 none) from rfl))
theorem pm_cw62 : Cond.code (pm_y 62) (pm_c 62) (pm_n 62) (pm_r 62) ∈ lw_tbl := pm_tb4 (List.mem_of_getElem? (i := 51) (show tables_1_5[51]? = some (Cond.code yX7_copyFrom cX7_copyFrom 2 none) from rfl))
theorem pm_cw63 : Cond.code (pm_y 63) (pm_c 63) (pm_n 63) (pm_r 63) ∈ lw_tbl := pm_tb1 (List.mem_of_getElem? (i := 20) (show tables_1_2[20]? = some (Cond.code yX8_init cX8_init 1 none) from rfl))
theorem pm_cw64 : Cond.code (pm_y 64) (pm_c 64) (pm_n 64) (pm_r 64) ∈ lw_tbl := pm_tb3 (List.mem_of_getElem? (i := 107) (show tables_1_4[107]? = some (Cond.code yX8_choose cX8_choose 6 none) from rfl))
theorem pm_cw65 : Cond.code (pm_y 65) (pm_c 65) (pm_n 65) (pm_r 65) ∈ lw_tbl := pm_tb3 (List.mem_of_getElem? (i := 142) (show tables_1_4[142]? = some (Cond.code yX8_markedAs cX8_markedAs 5 (some .int)) from rfl))
theorem pm_cw66 : Cond.code (pm_y 66) (pm_c 66) (pm_n 66) (pm_r 66) ∈ lw_tbl := pm_tb3 (List.mem_of_getElem? (i := 148) (show tables_1_4[148]? = some (Cond.code yX8_countLayers cX8_countLayers 3 none) from rfl))
theorem pm_cw67 : Cond.code (pm_y 67) (pm_c 67) (pm_n 67) (pm_r 67) ∈ lw_tbl := pm_tb3 (List.mem_of_getElem? (i := 155) (show tables_1_4[155]? = some (Cond.code yX8_firstAt cX8_firstAt 2 (some .int)) from rfl))
theorem pm_cw68 : Cond.code (pm_y 68) (pm_c 68) (pm_n 68) (pm_r 68) ∈ lw_tbl := pm_tb3 (List.mem_of_getElem? (i := 159) (show tables_1_4[159]? = some (Cond.code yX8_layersOf cX8_layersOf 4 (some .int)) from rfl))
theorem pm_cw69 : Cond.code (pm_y 69) (pm_c 69) (pm_n 69) (pm_r 69) ∈ lw_tbl := pm_tb3 (List.mem_of_getElem? (i := 171) (show tables_1_4[171]? = some (Cond.code yX8_bestCell cX8_bestCell 3 (some .int)) from rfl))
theorem pm_cw70 : Cond.code (pm_y 70) (pm_c 70) (pm_n 70) (pm_r 70) ∈ lw_tbl := pm_tb3 (List.mem_of_getElem? (i := 175) (show tables_1_4[175]? = some (Cond.code yX8_mostAlike cX8_mostAlike 4 (some .int)) from rfl))
theorem pm_cw71 : Cond.code (pm_y 71) (pm_c 71) (pm_n 71) (pm_r 71) ∈ lw_tbl := pm_tb3 (List.mem_of_getElem? (i := 185) (show tables_1_4[185]? = some (Cond.code yX8_richestHills cX8_richestHills 4 (some .int)) from rfl))
theorem pm_cw72 : Cond.code (pm_y 72) (pm_c 72) (pm_n 72) (pm_r 72) ∈ lw_tbl := pm_tb3 (List.mem_of_getElem? (i := 163) (show tables_1_4[163]? = some (Cond.code yX8_countOf cX8_countOf 2 (some .int)) from rfl))
theorem pm_cw73 : Cond.code (pm_y 73) (pm_c 73) (pm_n 73) (pm_r 73) ∈ lw_tbl := pm_tb3 (List.mem_of_getElem? (i := 138) (show tables_1_4[138]? = some (Cond.code yX8_clearTally cX8_clearTally 2 none) from rfl))
theorem pm_cw74 : Cond.code (pm_y 74) (pm_c 74) (pm_n 74) (pm_r 74) ∈ lw_tbl := pm_tb3 (List.mem_of_getElem? (i := 151) (show tables_1_4[151]? = some (Cond.code yX8_cellAt cX8_cellAt 2 (some .int)) from rfl))
theorem pm_cw75 : Cond.code (pm_y 75) (pm_c 75) (pm_n 75) (pm_r 75) ∈ lw_tbl := pm_tb3 (List.mem_of_getElem? (i := 122) (show tables_1_4[122]? = some (Cond.code yX8_shiftOf cX8_shiftOf 1 (some .int)) from rfl))
theorem pm_cw76 : Cond.code (pm_y 76) (pm_c 76) (pm_n 76) (pm_r 76) ∈ lw_tbl := pm_tb3 (List.mem_of_getElem? (i := 111) (show tables_1_4[111]? = some (Cond.code yX8_makeRows cX8_makeRows 2 none) from rfl))
theorem pm_cw77 : Cond.code (pm_y 77) (pm_c 77) (pm_n 77) (pm_r 77) ∈ lw_tbl := pm_tb3 (List.mem_of_getElem? (i := 115) (show tables_1_4[115]? = some (Cond.code yX8_addFrom cX8_addFrom 8 none) from rfl))
theorem pm_cw78 : Cond.code (pm_y 78) (pm_c 78) (pm_n 78) (pm_r 78) ∈ lw_tbl := pm_tb3 (List.mem_of_getElem? (i := 126) (show tables_1_4[126]? = some (Cond.code yX8_crosses cX8_crosses 9 (some .boolean)) from rfl))
theorem pm_cw79 : Cond.code (pm_y 79) (pm_c 79) (pm_n 79) (pm_r 79) ∈ lw_tbl := pm_tb3 (List.mem_of_getElem? (i := 130) (show tables_1_4[130]? = some (Cond.code yX8_makeRoom cX8_makeRoom 4 none) from rfl))
theorem pm_cw80 : Cond.code (pm_y 80) (pm_c 80) (pm_n 80) (pm_r 80) ∈ lw_tbl := pm_tb3 (List.mem_of_getElem? (i := 134) (show tables_1_4[134]? = some (Cond.code yX8_closeRoom cX8_closeRoom 4 none) from rfl))
theorem pm_cw81 : Cond.code (pm_y 81) (pm_c 81) (pm_n 81) (pm_r 81) ∈ lw_tbl := pm_tb3 (List.mem_of_getElem? (i := 119) (show tables_1_4[119]? = some (Cond.code yX8_addRow cX8_addRow 4 none) from rfl))
theorem pm_cw82 : Cond.code (pm_y 82) (pm_c 82) (pm_n 82) (pm_r 82) ∈ lw_tbl := pm_tb0 (List.mem_of_getElem? (i := 33) (show tables_1_1[33]? = some (Cond.code yX9_init cX9_init 1 none) from rfl))
theorem pm_cw83 : Cond.code (pm_y 83) (pm_c 83) (pm_n 83) (pm_r 83) ∈ lw_tbl := pm_tb1 (List.mem_of_getElem? (i := 119) (show tables_1_2[119]? = some (Cond.code yX9_append cX9_append 3 none) from rfl))
theorem pm_cw84 : Cond.code (pm_y 84) (pm_c 84) (pm_n 84) (pm_r 84) ∈ lw_tbl := pm_tb1 (List.mem_of_getElem? (i := 135) (show tables_1_2[135]? = some (Cond.code yX9_startReading cX9_startReading 1 none) from rfl))
theorem pm_cw85 : Cond.code (pm_y 85) (pm_c 85) (pm_n 85) (pm_r 85) ∈ lw_tbl := pm_tb2 (List.mem_of_getElem? (i := 16) (show tables_1_3[16]? = some (Cond.code yX9_fault cX9_fault 1 (some .int)) from rfl))
theorem pm_cw86 : Cond.code (pm_y 86) (pm_c 86) (pm_n 86) (pm_r 86) ∈ lw_tbl := pm_tb1 (List.mem_of_getElem? (i := 143) (show tables_1_2[143]? = some (Cond.code yX9_failed cX9_failed 1 (some .boolean)) from rfl))
theorem pm_cw87 : Cond.code (pm_y 87) (pm_c 87) (pm_n 87) (pm_r 87) ∈ lw_tbl := pm_tb1 (List.mem_of_getElem? (i := 216) (show tables_1_2[216]? = some (Cond.code yX9_fail cX9_fail 3 none) from rfl))
theorem pm_cw88 : Cond.code (pm_y 88) (pm_c 88) (pm_n 88) (pm_r 88) ∈ lw_tbl := pm_tb1 (List.mem_of_getElem? (i := 212) (show tables_1_2[212]? = some (Cond.code yX9_failHere cX9_failHere 1 none) from rfl))
theorem pm_cw89 : Cond.code (pm_y 89) (pm_c 89) (pm_n 89) (pm_r 89) ∈ lw_tbl := pm_tb1 (List.mem_of_getElem? (i := 151) (show tables_1_2[151]? = some (Cond.code yX9_where cX9_where 1 (some .int)) from rfl))
theorem pm_cw90 : Cond.code (pm_y 90) (pm_c 90) (pm_n 90) (pm_r 90) ∈ lw_tbl := pm_tb2 (List.mem_of_getElem? (i := 12) (show tables_1_3[12]? = some (Cond.code yX9_ended cX9_ended 1 (some .boolean)) from rfl))
theorem pm_cw91 : Cond.code (pm_y 91) (pm_c 91) (pm_n 91) (pm_r 91) ∈ lw_tbl := pm_tb2 (List.mem_of_getElem? (i := 76) (show tables_1_3[76]? = some (Cond.code yX9_atDigit cX9_atDigit 1 (some .boolean)) from rfl))
theorem pm_cw92 : Cond.code (pm_y 92) (pm_c 92) (pm_n 92) (pm_r 92) ∈ lw_tbl := pm_tb2 (List.mem_of_getElem? (i := 24) (show tables_1_3[24]? = some (Cond.code yX9_takeSign cX9_takeSign 2 (some .boolean)) from rfl))
theorem pm_cw93 : Cond.code (pm_y 93) (pm_c 93) (pm_n 93) (pm_r 93) ∈ lw_tbl := pm_tb2 (List.mem_of_getElem? (i := 20) (show tables_1_3[20]? = some (Cond.code yX9_needSign cX9_needSign 2 none) from rfl))
theorem pm_cw94 : Cond.code (pm_y 94) (pm_c 94) (pm_n 94) (pm_r 94) ∈ lw_tbl := pm_tb2 (List.mem_of_getElem? (i := 114) (show tables_1_3[114]? = some (Cond.code yX9_takeComparison cX9_takeComparison 3 (some .int)) from rfl))
theorem pm_cw95 : Cond.code (pm_y 95) (pm_c 95) (pm_n 95) (pm_r 95) ∈ lw_tbl := pm_tb1 (List.mem_of_getElem? (i := 225) (show tables_1_2[225]? = some (Cond.code yX9_takeNumber cX9_takeNumber 5 (some .int)) from rfl))
theorem pm_cw96 : Cond.code (pm_y 96) (pm_c 96) (pm_n 96) (pm_r 96) ∈ lw_tbl := pm_tb1 (List.mem_of_getElem? (i := 156) (show tables_1_2[156]? = some (Cond.code yX9_takeWord cX9_takeWord 4 (some .int)) from rfl))
theorem pm_cw97 : Cond.code (pm_y 97) (pm_c 97) (pm_n 97) (pm_r 97) ∈ lw_tbl := pm_tb2 (List.mem_of_getElem? (i := 61) (show tables_1_3[61]? = some (Cond.code yX9_takesWord cX9_takesWord 2 (some .boolean)) from rfl))
theorem pm_cw98 : Cond.code (pm_y 98) (pm_c 98) (pm_n 98) (pm_r 98) ∈ lw_tbl := pm_tb1 (List.mem_of_getElem? (i := 160) (show tables_1_2[160]? = some (Cond.code yX9_numberIn cX9_numberIn 7 (some .int)) from rfl))
theorem pm_cw99 : Cond.code (pm_y 99) (pm_c 99) (pm_n 99) (pm_r 99) ∈ lw_tbl := pm_tb1 (List.mem_of_getElem? (i := 228) (show tables_1_2[228]? = some (Cond.code yX9_isDigit cX9_isDigit 1 (some .boolean)) from rfl))
theorem pm_cw100 : Cond.code (pm_y 100) (pm_c 100) (pm_n 100) (pm_r 100) ∈ lw_tbl := pm_tb1 (List.mem_of_getElem? (i := 139) (show tables_1_2[139]? = some (Cond.code yX9_passBlanks cX9_passBlanks 1 none) from rfl))
theorem pm_cw101 : Cond.code (pm_y 101) (pm_c 101) (pm_n 101) (pm_r 101) ∈ lw_tbl := pm_tb1 (List.mem_of_getElem? (i := 49) (show tables_1_2[49]? = some (Cond.code yX10_init cX10_init 1 none) from rfl))
theorem pm_cw102 : Cond.code (pm_y 102) (pm_c 102) (pm_n 102) (pm_r 102) ∈ lw_tbl := pm_tb4 (List.mem_of_getElem? (i := 16) (show tables_1_5[16]? = some (Cond.code yX10_begin cX10_begin 2 none) from rfl))
theorem pm_cw103 : Cond.code (pm_y 103) (pm_c 103) (pm_n 103) (pm_r 103) ∈ lw_tbl := pm_tb4 (List.mem_of_getElem? (i := 20) (show tables_1_5[20]? = some (Cond.code yX10_run cX10_run 10 none) from rfl))
theorem pm_cw104 : Cond.code (pm_y 104) (pm_c 104) (pm_n 104) (pm_r 104) ∈ lw_tbl := pm_tb4 (List.mem_of_getElem? (i := 33) (show tables_1_5[33]? = some (Cond.code yX10_tryFold cX10_tryFold 6 none) from rfl))
theorem pm_cw105 : Cond.code (pm_y 105) (pm_c 105) (pm_n 105) (pm_r 105) ∈ lw_tbl := pm_tb4 (List.mem_of_getElem? (i := 25) (show tables_1_5[25]? = some (Cond.code yX10_drawBelow cX10_drawBelow 2 (some .int)) from rfl))
theorem pm_cw106 : Cond.code (pm_y 106) (pm_c 106) (pm_n 106) (pm_r 106) ∈ lw_tbl := pm_tb0 (List.mem_of_getElem? (i := 25) (show tables_1_1[25]? = some (Cond.code yX11_init cX11_init 1 none) from rfl))
theorem pm_cw107 : Cond.code (pm_y 107) (pm_c 107) (pm_n 107) (pm_r 107) ∈ lw_tbl := pm_tb1 (List.mem_of_getElem? (i := 115) (show tables_1_2[115]? = some (Cond.code yX11_feed cX11_feed 6 (some .int)) from rfl))
theorem pm_cw108 : Cond.code (pm_y 108) (pm_c 108) (pm_n 108) (pm_r 108) ∈ lw_tbl := pm_tb1 (List.mem_of_getElem? (i := 123) (show tables_1_2[123]? = some (Cond.code yX11_end cX11_end 2 (some .int)) from rfl))
theorem pm_cw109 : Cond.code (pm_y 109) (pm_c 109) (pm_n 109) (pm_r 109) ∈ lw_tbl := pm_tb1 (List.mem_of_getElem? (i := 127) (show tables_1_2[127]? = some (Cond.code yX11_cloth cX11_cloth 2 (some .int)) from rfl))
theorem pm_cw110 : Cond.code (pm_y 110) (pm_c 110) (pm_n 110) (pm_r 110) ∈ lw_tbl := pm_tb2 (List.mem_of_getElem? (i := 45) (show tables_1_3[45]? = some (Cond.code yX11_rule cX11_rule 2 (some .int)) from rfl))
theorem pm_cw111 : Cond.code (pm_y 111) (pm_c 111) (pm_n 111) (pm_r 111) ∈ lw_tbl := pm_tb2 (List.mem_of_getElem? (i := 143) (show tables_1_3[143]? = some (Cond.code yX11_force cX11_force 3 (some .int)) from rfl))
theorem pm_cw112 : Cond.code (pm_y 112) (pm_c 112) (pm_n 112) (pm_r 112) ∈ lw_tbl := pm_tb2 (List.mem_of_getElem? (i := 147) (show tables_1_3[147]? = some (Cond.code yX11_cell cX11_cell 4 (some .int)) from rfl))
theorem pm_cw113 : Cond.code (pm_y 113) (pm_c 113) (pm_n 113) (pm_r 113) ∈ lw_tbl := pm_tb2 (List.mem_of_getElem? (i := 152) (show tables_1_3[152]? = some (Cond.code yX11_joint cX11_joint 3 (some .int)) from rfl))
theorem pm_cw114 : Cond.code (pm_y 114) (pm_c 114) (pm_n 114) (pm_r 114) ∈ lw_tbl := pm_tb2 (List.mem_of_getElem? (i := 160) (show tables_1_3[160]? = some (Cond.code yX11_person cX11_person 3 (some .int)) from rfl))
theorem pm_cw115 : Cond.code (pm_y 115) (pm_c 115) (pm_n 115) (pm_r 115) ∈ lw_tbl := pm_tb2 (List.mem_of_getElem? (i := 172) (show tables_1_3[172]? = some (Cond.code yX11_thick cX11_thick 2 (some .int)) from rfl))
theorem pm_cw116 : Cond.code (pm_y 116) (pm_c 116) (pm_n 116) (pm_r 116) ∈ lw_tbl := pm_tb2 (List.mem_of_getElem? (i := 176) (show tables_1_3[176]? = some (Cond.code yX11_fold cX11_fold 8 (some .int)) from rfl))
theorem pm_cw117 : Cond.code (pm_y 117) (pm_c 117) (pm_n 117) (pm_r 117) ∈ lw_tbl := pm_tb3 (List.mem_of_getElem? (i := 35) (show tables_1_4[35]? = some (Cond.code yX11_open cX11_open 3 (some .int)) from rfl))
theorem pm_cw118 : Cond.code (pm_y 118) (pm_c 118) (pm_n 118) (pm_r 118) ∈ lw_tbl := pm_tb3 (List.mem_of_getElem? (i := 44) (show tables_1_4[44]? = some (Cond.code yX11_iron cX11_iron 4 (some .int)) from rfl))
theorem pm_cw119 : Cond.code (pm_y 119) (pm_c 119) (pm_n 119) (pm_r 119) ∈ lw_tbl := pm_tb3 (List.mem_of_getElem? (i := 48) (show tables_1_4[48]? = some (Cond.code yX11_give cX11_give 5 (some .int)) from rfl))
theorem pm_cw120 : Cond.code (pm_y 120) (pm_c 120) (pm_n 120) (pm_r 120) ∈ lw_tbl := pm_tb3 (List.mem_of_getElem? (i := 52) (show tables_1_4[52]? = some (Cond.code yX11_undo cX11_undo 1 (some .int)) from rfl))
theorem pm_cw121 : Cond.code (pm_y 121) (pm_c 121) (pm_n 121) (pm_r 121) ∈ lw_tbl := pm_tb3 (List.mem_of_getElem? (i := 60) (show tables_1_4[60]? = some (Cond.code yX11_cost cX11_cost 6 (some .int)) from rfl))
theorem pm_cw122 : Cond.code (pm_y 122) (pm_c 122) (pm_n 122) (pm_r 122) ∈ lw_tbl := pm_tb3 (List.mem_of_getElem? (i := 64) (show tables_1_4[64]? = some (Cond.code yX11_mark cX11_mark 4 (some .int)) from rfl))
theorem pm_cw123 : Cond.code (pm_y 123) (pm_c 123) (pm_n 123) (pm_r 123) ∈ lw_tbl := pm_tb3 (List.mem_of_getElem? (i := 68) (show tables_1_4[68]? = some (Cond.code yX11_folds cX11_folds 2 (some .int)) from rfl))
theorem pm_cw124 : Cond.code (pm_y 124) (pm_c 124) (pm_n 124) (pm_r 124) ∈ lw_tbl := pm_tb3 (List.mem_of_getElem? (i := 103) (show tables_1_4[103]? = some (Cond.code yX11_stacks cX11_stacks 5 (some .int)) from rfl))
theorem pm_cw125 : Cond.code (pm_y 125) (pm_c 125) (pm_n 125) (pm_r 125) ∈ lw_tbl := pm_tb3 (List.mem_of_getElem? (i := 167) (show tables_1_4[167]? = some (Cond.code yX11_peek cX11_peek 3 (some .int)) from rfl))
theorem pm_cw126 : Cond.code (pm_y 126) (pm_c 126) (pm_n 126) (pm_r 126) ∈ lw_tbl := pm_tb3 (List.mem_of_getElem? (i := 181) (show tables_1_4[181]? = some (Cond.code yX11_richest cX11_richest 3 (some .int)) from rfl))
theorem pm_cw127 : Cond.code (pm_y 127) (pm_c 127) (pm_n 127) (pm_r 127) ∈ lw_tbl := pm_tb3 (List.mem_of_getElem? (i := 190) (show tables_1_4[190]? = some (Cond.code yX11_own cX11_own 5 (some .int)) from rfl))
theorem pm_cw128 : Cond.code (pm_y 128) (pm_c 128) (pm_n 128) (pm_r 128) ∈ lw_tbl := pm_tb3 (List.mem_of_getElem? (i := 207) (show tables_1_4[207]? = some (Cond.code yX11_last cX11_last 3 (some .int)) from rfl))
theorem pm_cw129 : Cond.code (pm_y 129) (pm_c 129) (pm_n 129) (pm_r 129) ∈ lw_tbl := pm_tb3 (List.mem_of_getElem? (i := 215) (show tables_1_4[215]? = some (Cond.code yX11_dearest cX11_dearest 9 (some .int)) from rfl))
theorem pm_cw130 : Cond.code (pm_y 130) (pm_c 130) (pm_n 130) (pm_r 130) ∈ lw_tbl := pm_tb3 (List.mem_of_getElem? (i := 220) (show tables_1_4[220]? = some (Cond.code yX11_log cX11_log 6 (some .int)) from rfl))
theorem pm_cw131 : Cond.code (pm_y 131) (pm_c 131) (pm_n 131) (pm_r 131) ∈ lw_tbl := pm_tb3 (List.mem_of_getElem? (i := 224) (show tables_1_4[224]? = some (Cond.code yX11_ruled cX11_ruled 4 (some .int)) from rfl))
theorem pm_cw132 : Cond.code (pm_y 132) (pm_c 132) (pm_n 132) (pm_r 132) ∈ lw_tbl := pm_tb3 (List.mem_of_getElem? (i := 236) (show tables_1_4[236]? = some (Cond.code yX11_look cX11_look 6 (some .int)) from rfl))
theorem pm_cw133 : Cond.code (pm_y 133) (pm_c 133) (pm_n 133) (pm_r 133) ∈ lw_tbl := pm_tb4 (List.mem_of_getElem? (i := 8) (show tables_1_5[8]? = some (Cond.code yX11_seed cX11_seed 3 (some .int)) from rfl))
theorem pm_cw134 : Cond.code (pm_y 134) (pm_c 134) (pm_n 134) (pm_r 134) ∈ lw_tbl := pm_tb4 (List.mem_of_getElem? (i := 12) (show tables_1_5[12]? = some (Cond.code yX11_days cX11_days 5 (some .int)) from rfl))
theorem pm_cw135 : Cond.code (pm_y 135) (pm_c 135) (pm_n 135) (pm_r 135) ∈ lw_tbl := pm_tb4 (List.mem_of_getElem? (i := 39) (show tables_1_5[39]? = some (Cond.code yX11_count cX11_count 3 (some .int)) from rfl))
theorem pm_cw136 : Cond.code (pm_y 136) (pm_c 136) (pm_n 136) (pm_r 136) ∈ lw_tbl := pm_tb4 (List.mem_of_getElem? (i := 47) (show tables_1_5[47]? = some (Cond.code yX11_image cX11_image 2 (some .int)) from rfl))
theorem pm_cw137 : Cond.code (pm_y 137) (pm_c 137) (pm_n 137) (pm_r 137) ∈ lw_tbl := pm_tb4 (List.mem_of_getElem? (i := 56) (show tables_1_5[56]? = some (Cond.code yX11_back cX11_back 2 (some .int)) from rfl))
theorem pm_cw138 : Cond.code (pm_y 138) (pm_c 138) (pm_n 138) (pm_r 138) ∈ lw_tbl := pm_tb2 (List.mem_of_getElem? (i := 184) (show tables_1_3[184]? = some (Cond.code yX11_ruleInForce cX11_ruleInForce 1 (some (.object "FoldDeeds$Rule"))) from rfl))
theorem pm_cw139 : Cond.code (pm_y 139) (pm_c 139) (pm_n 139) (pm_r 139) ∈ lw_tbl := pm_tb2 (List.mem_of_getElem? (i := 188) (show tables_1_3[188]? = some (Cond.code yX11_ruleOf cX11_ruleOf 2 (some (.object "FoldDeeds$Rule"))) from rfl))
theorem pm_cw140 : Cond.code (pm_y 140) (pm_c 140) (pm_n 140) (pm_r 140) ∈ lw_tbl := pm_tb3 (List.mem_of_getElem? (i := 228) (show tables_1_4[228]? = some (Cond.code yX11_findSo cX11_findSo 3 (some .int)) from rfl))
theorem pm_cw141 : Cond.code (pm_y 141) (pm_c 141) (pm_n 141) (pm_r 141) ∈ lw_tbl := pm_tb3 (List.mem_of_getElem? (i := 232) (show tables_1_4[232]? = some (Cond.code yX11_explainsLogs cX11_explainsLogs 3 (some .boolean)) from rfl))
theorem pm_cw142 : Cond.code (pm_y 142) (pm_c 142) (pm_n 142) (pm_r 142) ∈ lw_tbl := pm_tb4 (List.mem_of_getElem? (i := 0) (show tables_1_5[0]? = some (Cond.code yX11_alikeAt cX11_alikeAt 4 (some .int)) from rfl))
theorem pm_cw143 : Cond.code (pm_y 143) (pm_c 143) (pm_n 143) (pm_r 143) ∈ lw_tbl := pm_tb4 (List.mem_of_getElem? (i := 4) (show tables_1_5[4]? = some (Cond.code yX11_alikeUpTo cX11_alikeUpTo 4 (some .int)) from rfl))
theorem pm_cw144 : Cond.code (pm_y 144) (pm_c 144) (pm_n 144) (pm_r 144) ∈ lw_tbl := pm_tb3 (List.mem_of_getElem? (i := 210) (show tables_1_4[210]? = some (Cond.code yX11_winningPlace cX11_winningPlace 5 (some .int)) from rfl))
theorem pm_cw145 : Cond.code (pm_y 145) (pm_c 145) (pm_n 145) (pm_r 145) ∈ lw_tbl := pm_tb3 (List.mem_of_getElem? (i := 18) (show tables_1_4[18]? = some (Cond.code yX11_widthAfter cX11_widthAfter 2 (some .int)) from rfl))
theorem pm_cw146 : Cond.code (pm_y 146) (pm_c 146) (pm_n 146) (pm_r 146) ∈ lw_tbl := pm_tb4 (List.mem_of_getElem? (i := 61) (show tables_1_5[61]? = some (Cond.code yX12_init cX12_init 1 none) from rfl))
theorem pm_cw147 : Cond.code (pm_y 147) (pm_c 147) (pm_n 147) (pm_r 147) ∈ lw_tbl := pm_tb5 (List.mem_of_getElem? (i := 38) (show tables_1_6[38]? = some (Cond.code yX12_in cX12_in 6 (some .boolean)) from rfl))
theorem pm_cw148 : Cond.code (pm_y 148) (pm_c 148) (pm_n 148) (pm_r 148) ∈ lw_tbl := pm_tb6 (List.mem_of_getElem? (i := 137) (show tables_1_7[137]? = some (Cond.code yX12_isOf cX12_isOf 2 (some .boolean)) from rfl))
theorem pm_cw149 : Cond.code (pm_y 149) (pm_c 149) (pm_n 149) (pm_r 149) ∈ lw_tbl := pm_tb4 (List.mem_of_getElem? (i := 209) (show tables_1_5[209]? = some (Cond.code yX12_four cX12_four 3 none) from rfl))
theorem pm_cw150 : Cond.code (pm_y 150) (pm_c 150) (pm_n 150) (pm_r 150) ∈ lw_tbl := pm_tb4 (List.mem_of_getElem? (i := 205) (show tables_1_5[205]? = some (Cond.code yX12_feed cX12_feed 6 (some .int)) from rfl))
theorem pm_cw151 : Cond.code (pm_y 151) (pm_c 151) (pm_n 151) (pm_r 151) ∈ lw_tbl := pm_tb4 (List.mem_of_getElem? (i := 213) (show tables_1_5[213]? = some (Cond.code yX12_end cX12_end 2 (some .int)) from rfl))
theorem pm_cw152 : Cond.code (pm_y 152) (pm_c 152) (pm_n 152) (pm_r 152) ∈ lw_tbl := pm_tb5 (List.mem_of_getElem? (i := 11) (show tables_1_6[11]? = some (Cond.code yX12_fails cX12_fails 3 (some .boolean)) from rfl))
theorem pm_cw153 : Cond.code (pm_y 153) (pm_c 153) (pm_n 153) (pm_r 153) ∈ lw_tbl := pm_tb4 (List.mem_of_getElem? (i := 229) (show tables_1_5[229]? = some (Cond.code yX12_see cX12_see 1 (some .int)) from rfl))
theorem pm_cw154 : Cond.code (pm_y 154) (pm_c 154) (pm_n 154) (pm_r 154) ∈ lw_tbl := pm_tb5 (List.mem_of_getElem? (i := 35) (show tables_1_6[35]? = some (Cond.code yX12_isDigit cX12_isDigit 2 (some .boolean)) from rfl))
theorem pm_cw155 : Cond.code (pm_y 155) (pm_c 155) (pm_n 155) (pm_r 155) ∈ lw_tbl := pm_tb5 (List.mem_of_getElem? (i := 2) (show tables_1_6[2]? = some (Cond.code yX12_isLetter cX12_isLetter 2 (some .boolean)) from rfl))
theorem pm_cw156 : Cond.code (pm_y 156) (pm_c 156) (pm_n 156) (pm_r 156) ∈ lw_tbl := pm_tb4 (List.mem_of_getElem? (i := 238) (show tables_1_5[238]? = some (Cond.code yX12_isWord cX12_isWord 6 (some .boolean)) from rfl))
theorem pm_cw157 : Cond.code (pm_y 157) (pm_c 157) (pm_n 157) (pm_r 157) ∈ lw_tbl := pm_tb5 (List.mem_of_getElem? (i := 23) (show tables_1_6[23]? = some (Cond.code yX12_passWord cX12_passWord 1 none) from rfl))
theorem pm_cw158 : Cond.code (pm_y 158) (pm_c 158) (pm_n 158) (pm_r 158) ∈ lw_tbl := pm_tb5 (List.mem_of_getElem? (i := 89) (show tables_1_6[89]? = some (Cond.code yX12_takesWord cX12_takesWord 3 (some .boolean)) from rfl))
theorem pm_cw159 : Cond.code (pm_y 159) (pm_c 159) (pm_n 159) (pm_r 159) ∈ lw_tbl := pm_tb5 (List.mem_of_getElem? (i := 31) (show tables_1_6[31]? = some (Cond.code yX12_numberHere cX12_numberHere 5 (some .boolean)) from rfl))
theorem pm_cw160 : Cond.code (pm_y 160) (pm_c 160) (pm_n 160) (pm_r 160) ∈ lw_tbl := pm_tb5 (List.mem_of_getElem? (i := 75) (show tables_1_6[75]? = some (Cond.code yX12_wordHere cX12_wordHere 1 (some .int)) from rfl))
theorem pm_cw161 : Cond.code (pm_y 161) (pm_c 161) (pm_n 161) (pm_r 161) ∈ lw_tbl := pm_tb5 (List.mem_of_getElem? (i := 71) (show tables_1_6[71]? = some (Cond.code yX12_puts cX12_puts 3 none) from rfl))
theorem pm_cw162 : Cond.code (pm_y 162) (pm_c 162) (pm_n 162) (pm_r 162) ∈ lw_tbl := pm_tb5 (List.mem_of_getElem? (i := 67) (show tables_1_6[67]? = some (Cond.code yX12_makes cX12_makes 2 (some .boolean)) from rfl))
theorem pm_cw163 : Cond.code (pm_y 163) (pm_c 163) (pm_n 163) (pm_r 163) ∈ lw_tbl := pm_tb5 (List.mem_of_getElem? (i := 102) (show tables_1_6[102]? = some (Cond.code yX12_opens cX12_opens 2 (some .boolean)) from rfl))
theorem pm_cw164 : Cond.code (pm_y 164) (pm_c 164) (pm_n 164) (pm_r 164) ∈ lw_tbl := pm_tb5 (List.mem_of_getElem? (i := 117) (show tables_1_6[117]? = some (Cond.code yX12_strength cX12_strength 1 (some .int)) from rfl))
theorem pm_cw165 : Cond.code (pm_y 165) (pm_c 165) (pm_n 165) (pm_r 165) ∈ lw_tbl := pm_tb5 (List.mem_of_getElem? (i := 114) (show tables_1_6[114]? = some (Cond.code yX12_settles cX12_settles 2 none) from rfl))
theorem pm_cw166 : Cond.code (pm_y 166) (pm_c 166) (pm_n 166) (pm_r 166) ∈ lw_tbl := pm_tb5 (List.mem_of_getElem? (i := 62) (show tables_1_6[62]? = some (Cond.code yX12_value cX12_value 3 (some .boolean)) from rfl))
theorem pm_cw167 : Cond.code (pm_y 167) (pm_c 167) (pm_n 167) (pm_r 167) ∈ lw_tbl := pm_tb5 (List.mem_of_getElem? (i := 58) (show tables_1_6[58]? = some (Cond.code yX12_term cX12_term 2 (some .boolean)) from rfl))
theorem pm_cw168 : Cond.code (pm_y 168) (pm_c 168) (pm_n 168) (pm_r 168) ∈ lw_tbl := pm_tb5 (List.mem_of_getElem? (i := 54) (show tables_1_6[54]? = some (Cond.code yX12_sum cX12_sum 2 (some .boolean)) from rfl))
theorem pm_cw169 : Cond.code (pm_y 169) (pm_c 169) (pm_n 169) (pm_r 169) ∈ lw_tbl := pm_tb5 (List.mem_of_getElem? (i := 106) (show tables_1_6[106]? = some (Cond.code yX12_compare cX12_compare 5 (some .boolean)) from rfl))
theorem pm_cw170 : Cond.code (pm_y 170) (pm_c 170) (pm_n 170) (pm_r 170) ∈ lw_tbl := pm_tb5 (List.mem_of_getElem? (i := 97) (show tables_1_6[97]? = some (Cond.code yX12_fact cX12_fact 3 (some .boolean)) from rfl))
theorem pm_cw171 : Cond.code (pm_y 171) (pm_c 171) (pm_n 171) (pm_r 171) ∈ lw_tbl := pm_tb5 (List.mem_of_getElem? (i := 121) (show tables_1_6[121]? = some (Cond.code yX12_isInside cX12_isInside 2 (some .boolean)) from rfl))
theorem pm_cw172 : Cond.code (pm_y 172) (pm_c 172) (pm_n 172) (pm_r 172) ∈ lw_tbl := pm_tb5 (List.mem_of_getElem? (i := 110) (show tables_1_6[110]? = some (Cond.code yX12_closes cX12_closes 1 none) from rfl))
theorem pm_cw173 : Cond.code (pm_y 173) (pm_c 173) (pm_n 173) (pm_r 173) ∈ lw_tbl := pm_tb5 (List.mem_of_getElem? (i := 93) (show tables_1_6[93]? = some (Cond.code yX12_tested cX12_tested 3 (some .boolean)) from rfl))
theorem pm_cw174 : Cond.code (pm_y 174) (pm_c 174) (pm_n 174) (pm_r 174) ∈ lw_tbl := pm_tb5 (List.mem_of_getElem? (i := 50) (show tables_1_6[50]? = some (Cond.code yX12_isPriceHere cX12_isPriceHere 2 (some .boolean)) from rfl))
theorem pm_cw175 : Cond.code (pm_y 175) (pm_c 175) (pm_n 175) (pm_r 175) ∈ lw_tbl := pm_tb5 (List.mem_of_getElem? (i := 27) (show tables_1_6[27]? = some (Cond.code yX12_cellHere cX12_cellHere 4 (some .boolean)) from rfl))
theorem pm_cw176 : Cond.code (pm_y 176) (pm_c 176) (pm_n 176) (pm_r 176) ∈ lw_tbl := pm_tb5 (List.mem_of_getElem? (i := 19) (show tables_1_6[19]? = some (Cond.code yX12_isClothHere cX12_isClothHere 3 (some .boolean)) from rfl))
theorem pm_cw177 : Cond.code (pm_y 177) (pm_c 177) (pm_n 177) (pm_r 177) ∈ lw_tbl := pm_tb5 (List.mem_of_getElem? (i := 42) (show tables_1_6[42]? = some (Cond.code yX12_isPersonHere cX12_isPersonHere 2 (some .boolean)) from rfl))
theorem pm_cw178 : Cond.code (pm_y 178) (pm_c 178) (pm_n 178) (pm_r 178) ∈ lw_tbl := pm_tb5 (List.mem_of_getElem? (i := 46) (show tables_1_6[46]? = some (Cond.code yX12_isOneOfRow cX12_isOneOfRow 5 (some .boolean)) from rfl))
theorem pm_cw179 : Cond.code (pm_y 179) (pm_c 179) (pm_n 179) (pm_r 179) ∈ lw_tbl := pm_tb5 (List.mem_of_getElem? (i := 15) (show tables_1_6[15]? = some (Cond.code yX12_clothLineHere cX12_clothLineHere 2 (some .boolean)) from rfl))
theorem pm_cw180 : Cond.code (pm_y 180) (pm_c 180) (pm_n 180) (pm_r 180) ∈ lw_tbl := pm_tb4 (List.mem_of_getElem? (i := 233) (show tables_1_5[233]? = some (Cond.code yX12_isClothWord cX12_isClothWord 1 (some .boolean)) from rfl))
theorem pm_cw181 : Cond.code (pm_y 181) (pm_c 181) (pm_n 181) (pm_r 181) ∈ lw_tbl := pm_tb4 (List.mem_of_getElem? (i := 225) (show tables_1_5[225]? = some (Cond.code yX12_clauseHere cX12_clauseHere 3 (some .boolean)) from rfl))
theorem pm_cw182 : Cond.code (pm_y 182) (pm_c 182) (pm_n 182) (pm_r 182) ∈ lw_tbl := pm_tb4 (List.mem_of_getElem? (i := 221) (show tables_1_5[221]? = some (Cond.code yX12_readsAll cX12_readsAll 2 (some .boolean)) from rfl))
theorem pm_cw183 : Cond.code (pm_y 183) (pm_c 183) (pm_n 183) (pm_r 183) ∈ lw_tbl := pm_tb4 (List.mem_of_getElem? (i := 217) (show tables_1_5[217]? = some (Cond.code yX12_rule cX12_rule 1 (some .int)) from rfl))
theorem pm_cw184 : Cond.code (pm_y 184) (pm_c 184) (pm_n 184) (pm_r 184) ∈ lw_tbl := pm_tb5 (List.mem_of_getElem? (i := 127) (show tables_1_6[127]? = some (Cond.code yX12_cloth cX12_cloth 2 (some .int)) from rfl))
theorem pm_cw185 : Cond.code (pm_y 185) (pm_c 185) (pm_n 185) (pm_r 185) ∈ lw_tbl := pm_tb5 (List.mem_of_getElem? (i := 143) (show tables_1_6[143]? = some (Cond.code yX12_isRule cX12_isRule 2 (some .boolean)) from rfl))
theorem pm_cw186 : Cond.code (pm_y 186) (pm_c 186) (pm_n 186) (pm_r 186) ∈ lw_tbl := pm_tb5 (List.mem_of_getElem? (i := 236) (show tables_1_6[236]? = some (Cond.code yX12_push cX12_push 3 none) from rfl))
theorem pm_cw187 : Cond.code (pm_y 187) (pm_c 187) (pm_n 187) (pm_r 187) ∈ lw_tbl := pm_tb6 (List.mem_of_getElem? (i := 0) (show tables_1_7[0]? = some (Cond.code yX12_pop cX12_pop 1 (some .long)) from rfl))
theorem pm_cw188 : Cond.code (pm_y 188) (pm_c 188) (pm_n 188) (pm_r 188) ∈ lw_tbl := pm_tb6 (List.mem_of_getElem? (i := 3) (show tables_1_7[3]? = some (Cond.code yX12_one cX12_one 5 (some .long)) from rfl))
theorem pm_cw189 : Cond.code (pm_y 189) (pm_c 189) (pm_n 189) (pm_r 189) ∈ lw_tbl := pm_tb5 (List.mem_of_getElem? (i := 232) (show tables_1_6[232]? = some (Cond.code yX12_reckons cX12_reckons 11 (some .long)) from rfl))
theorem pm_cw190 : Cond.code (pm_y 190) (pm_c 190) (pm_n 190) (pm_r 190) ∈ lw_tbl := pm_tb5 (List.mem_of_getElem? (i := 168) (show tables_1_6[168]? = some (Cond.code yX12_isCloth cX12_isCloth 1 (some .boolean)) from rfl))
theorem pm_cw191 : Cond.code (pm_y 191) (pm_c 191) (pm_n 191) (pm_r 191) ∈ lw_tbl := pm_tb5 (List.mem_of_getElem? (i := 151) (show tables_1_6[151]? = some (Cond.code yX12_isCell cX12_isCell 2 (some .boolean)) from rfl))
theorem pm_cw192 : Cond.code (pm_y 192) (pm_c 192) (pm_n 192) (pm_r 192) ∈ lw_tbl := pm_tb5 (List.mem_of_getElem? (i := 164) (show tables_1_6[164]? = some (Cond.code yX12_isJoint cX12_isJoint 2 (some .boolean)) from rfl))
theorem pm_cw193 : Cond.code (pm_y 193) (pm_c 193) (pm_n 193) (pm_r 193) ∈ lw_tbl := pm_tb5 (List.mem_of_getElem? (i := 176) (show tables_1_6[176]? = some (Cond.code yX12_isPerson cX12_isPerson 2 (some .boolean)) from rfl))
theorem pm_cw194 : Cond.code (pm_y 194) (pm_c 194) (pm_n 194) (pm_r 194) ∈ lw_tbl := pm_tb5 (List.mem_of_getElem? (i := 156) (show tables_1_6[156]? = some (Cond.code yX12_cellOf cX12_cellOf 3 (some .int)) from rfl))
theorem pm_cw195 : Cond.code (pm_y 195) (pm_c 195) (pm_n 195) (pm_r 195) ∈ lw_tbl := pm_tb5 (List.mem_of_getElem? (i := 188) (show tables_1_6[188]? = some (Cond.code yX12_thickAt cX12_thickAt 4 (some .int)) from rfl))
theorem pm_cw196 : Cond.code (pm_y 196) (pm_c 196) (pm_n 196) (pm_r 196) ∈ lw_tbl := pm_tb5 (List.mem_of_getElem? (i := 135) (show tables_1_6[135]? = some (Cond.code yX12_liesOpen cX12_liesOpen 3 none) from rfl))
theorem pm_cw197 : Cond.code (pm_y 197) (pm_c 197) (pm_n 197) (pm_r 197) ∈ lw_tbl := pm_tb5 (List.mem_of_getElem? (i := 131) (show tables_1_6[131]? = some (Cond.code yX12_begins cX12_begins 2 none) from rfl))
theorem pm_cw198 : Cond.code (pm_y 198) (pm_c 198) (pm_n 198) (pm_r 198) ∈ lw_tbl := pm_tb5 (List.mem_of_getElem? (i := 180) (show tables_1_6[180]? = some (Cond.code yX12_cellsOf cX12_cellsOf 4 (some .int)) from rfl))
theorem pm_cw199 : Cond.code (pm_y 199) (pm_c 199) (pm_n 199) (pm_r 199) ∈ lw_tbl := pm_tb5 (List.mem_of_getElem? (i := 139) (show tables_1_6[139]? = some (Cond.code yX12_force cX12_force 3 (some .int)) from rfl))
theorem pm_cw200 : Cond.code (pm_y 200) (pm_c 200) (pm_n 200) (pm_r 200) ∈ lw_tbl := pm_tb5 (List.mem_of_getElem? (i := 147) (show tables_1_6[147]? = some (Cond.code yX12_cell cX12_cell 3 (some .int)) from rfl))
theorem pm_cw201 : Cond.code (pm_y 201) (pm_c 201) (pm_n 201) (pm_r 201) ∈ lw_tbl := pm_tb5 (List.mem_of_getElem? (i := 160) (show tables_1_6[160]? = some (Cond.code yX12_joint cX12_joint 3 (some .int)) from rfl))
theorem pm_cw202 : Cond.code (pm_y 202) (pm_c 202) (pm_n 202) (pm_r 202) ∈ lw_tbl := pm_tb5 (List.mem_of_getElem? (i := 172) (show tables_1_6[172]? = some (Cond.code yX12_person cX12_person 3 (some .int)) from rfl))
theorem pm_cw203 : Cond.code (pm_y 203) (pm_c 203) (pm_n 203) (pm_r 203) ∈ lw_tbl := pm_tb5 (List.mem_of_getElem? (i := 184) (show tables_1_6[184]? = some (Cond.code yX12_thick cX12_thick 2 (some .int)) from rfl))
theorem pm_cw204 : Cond.code (pm_y 204) (pm_c 204) (pm_n 204) (pm_r 204) ∈ lw_tbl := pm_tb5 (List.mem_of_getElem? (i := 204) (show tables_1_6[204]? = some (Cond.code yX12_isLine cX12_isLine 2 (some .boolean)) from rfl))
theorem pm_cw205 : Cond.code (pm_y 205) (pm_c 205) (pm_n 205) (pm_r 205) ∈ lw_tbl := pm_tb5 (List.mem_of_getElem? (i := 220) (show tables_1_6[220]? = some (Cond.code yX12_isMoved cX12_isMoved 4 (some .boolean)) from rfl))
theorem pm_cw206 : Cond.code (pm_y 206) (pm_c 206) (pm_n 206) (pm_r 206) ∈ lw_tbl := pm_tb5 (List.mem_of_getElem? (i := 212) (show tables_1_6[212]? = some (Cond.code yX12_kindBy cX12_kindBy 6 (some .int)) from rfl))
theorem pm_cw207 : Cond.code (pm_y 207) (pm_c 207) (pm_n 207) (pm_r 207) ∈ lw_tbl := pm_tb5 (List.mem_of_getElem? (i := 208) (show tables_1_6[208]? = some (Cond.code yX12_canCrease cX12_canCrease 5 (some .boolean)) from rfl))
theorem pm_cw208 : Cond.code (pm_y 208) (pm_c 208) (pm_n 208) (pm_r 208) ∈ lw_tbl := pm_tb6 (List.mem_of_getElem? (i := 29) (show tables_1_7[29]? = some (Cond.code yX12_turnsOver cX12_turnsOver 11 none) from rfl))
theorem pm_cw209 : Cond.code (pm_y 209) (pm_c 209) (pm_n 209) (pm_r 209) ∈ lw_tbl := pm_tb5 (List.mem_of_getElem? (i := 228) (show tables_1_6[228]? = some (Cond.code yX12_summedBy cX12_summedBy 4 (some .long)) from rfl))
theorem pm_cw210 : Cond.code (pm_y 210) (pm_c 210) (pm_n 210) (pm_r 210) ∈ lw_tbl := pm_tb5 (List.mem_of_getElem? (i := 224) (show tables_1_6[224]? = some (Cond.code yX12_words cX12_words 5 none) from rfl))
theorem pm_cw211 : Cond.code (pm_y 211) (pm_c 211) (pm_n 211) (pm_r 211) ∈ lw_tbl := pm_tb5 (List.mem_of_getElem? (i := 216) (show tables_1_6[216]? = some (Cond.code yX12_prices cX12_prices 10 (some .int)) from rfl))
theorem pm_cw212 : Cond.code (pm_y 212) (pm_c 212) (pm_n 212) (pm_r 212) ∈ lw_tbl := pm_tb6 (List.mem_of_getElem? (i := 25) (show tables_1_7[25]? = some (Cond.code yX12_buys cX12_buys 8 none) from rfl))
theorem pm_cw213 : Cond.code (pm_y 213) (pm_c 213) (pm_n 213) (pm_r 213) ∈ lw_tbl := pm_tb6 (List.mem_of_getElem? (i := 15) (show tables_1_7[15]? = some (Cond.code yX12_placeOf cX12_placeOf 1 (some .int)) from rfl))
theorem pm_cw214 : Cond.code (pm_y 214) (pm_c 214) (pm_n 214) (pm_r 214) ∈ lw_tbl := pm_tb6 (List.mem_of_getElem? (i := 21) (show tables_1_7[21]? = some (Cond.code yX12_sideOf cX12_sideOf 1 (some .int)) from rfl))
theorem pm_cw215 : Cond.code (pm_y 215) (pm_c 215) (pm_n 215) (pm_r 215) ∈ lw_tbl := pm_tb6 (List.mem_of_getElem? (i := 18) (show tables_1_7[18]? = some (Cond.code yX12_wayOf cX12_wayOf 1 (some .int)) from rfl))
theorem pm_cw216 : Cond.code (pm_y 216) (pm_c 216) (pm_n 216) (pm_r 216) ∈ lw_tbl := pm_tb6 (List.mem_of_getElem? (i := 12) (show tables_1_7[12]? = some (Cond.code yX12_isFolded cX12_isFolded 5 (some .boolean)) from rfl))
theorem pm_cw217 : Cond.code (pm_y 217) (pm_c 217) (pm_n 217) (pm_r 217) ∈ lw_tbl := pm_tb6 (List.mem_of_getElem? (i := 8) (show tables_1_7[8]? = some (Cond.code yX12_keepsAct cX12_keepsAct 2 none) from rfl))
theorem pm_cw218 : Cond.code (pm_y 218) (pm_c 218) (pm_n 218) (pm_r 218) ∈ lw_tbl := pm_tb5 (List.mem_of_getElem? (i := 192) (show tables_1_6[192]? = some (Cond.code yX12_undo cX12_undo 2 (some .int)) from rfl))
theorem pm_cw219 : Cond.code (pm_y 219) (pm_c 219) (pm_n 219) (pm_r 219) ∈ lw_tbl := pm_tb5 (List.mem_of_getElem? (i := 200) (show tables_1_6[200]? = some (Cond.code yX12_isFold cX12_isFold 5 (some .boolean)) from rfl))
theorem pm_cw220 : Cond.code (pm_y 220) (pm_c 220) (pm_n 220) (pm_r 220) ∈ lw_tbl := pm_tb5 (List.mem_of_getElem? (i := 196) (show tables_1_6[196]? = some (Cond.code yX12_fold cX12_fold 6 (some .int)) from rfl))
theorem pm_cw221 : Cond.code (pm_y 221) (pm_c 221) (pm_n 221) (pm_r 221) ∈ lw_tbl := pm_tb6 (List.mem_of_getElem? (i := 33) (show tables_1_7[33]? = some (Cond.code yX12_open cX12_open 2 (some .int)) from rfl))
theorem pm_cw222 : Cond.code (pm_y 222) (pm_c 222) (pm_n 222) (pm_r 222) ∈ lw_tbl := pm_tb6 (List.mem_of_getElem? (i := 37) (show tables_1_7[37]? = some (Cond.code yX12_iron cX12_iron 3 (some .int)) from rfl))
theorem pm_cw223 : Cond.code (pm_y 223) (pm_c 223) (pm_n 223) (pm_r 223) ∈ lw_tbl := pm_tb6 (List.mem_of_getElem? (i := 41) (show tables_1_7[41]? = some (Cond.code yX12_give cX12_give 4 (some .int)) from rfl))
theorem pm_cw224 : Cond.code (pm_y 224) (pm_c 224) (pm_n 224) (pm_r 224) ∈ lw_tbl := pm_tb6 (List.mem_of_getElem? (i := 45) (show tables_1_7[45]? = some (Cond.code yX12_cost cX12_cost 5 (some .int)) from rfl))
theorem pm_cw225 : Cond.code (pm_y 225) (pm_c 225) (pm_n 225) (pm_r 225) ∈ lw_tbl := pm_tb6 (List.mem_of_getElem? (i := 49) (show tables_1_7[49]? = some (Cond.code yX12_mark cX12_mark 4 (some .int)) from rfl))
theorem pm_cw226 : Cond.code (pm_y 226) (pm_c 226) (pm_n 226) (pm_r 226) ∈ lw_tbl := pm_tb6 (List.mem_of_getElem? (i := 60) (show tables_1_7[60]? = some (Cond.code yX12_keeps cX12_keeps 2 none) from rfl))
theorem pm_cw227 : Cond.code (pm_y 227) (pm_c 227) (pm_n 227) (pm_r 227) ∈ lw_tbl := pm_tb6 (List.mem_of_getElem? (i := 92) (show tables_1_7[92]? = some (Cond.code yX12_laysBack cX12_laysBack 2 none) from rfl))
theorem pm_cw228 : Cond.code (pm_y 228) (pm_c 228) (pm_n 228) (pm_r 228) ∈ lw_tbl := pm_tb6 (List.mem_of_getElem? (i := 72) (show tables_1_7[72]? = some (Cond.code yX12_keepsPlace cX12_keepsPlace 3 none) from rfl))
theorem pm_cw229 : Cond.code (pm_y 229) (pm_c 229) (pm_n 229) (pm_r 229) ∈ lw_tbl := pm_tb6 (List.mem_of_getElem? (i := 84) (show tables_1_7[84]? = some (Cond.code yX12_laysPlace cX12_laysPlace 3 none) from rfl))
theorem pm_cw230 : Cond.code (pm_y 230) (pm_c 230) (pm_n 230) (pm_r 230) ∈ lw_tbl := pm_tb6 (List.mem_of_getElem? (i := 80) (show tables_1_7[80]? = some (Cond.code yX12_areMarked cX12_areMarked 2 (some .boolean)) from rfl))
theorem pm_cw231 : Cond.code (pm_y 231) (pm_c 231) (pm_n 231) (pm_r 231) ∈ lw_tbl := pm_tb6 (List.mem_of_getElem? (i := 88) (show tables_1_7[88]? = some (Cond.code yX12_foldsAsMarked cX12_foldsAsMarked 5 (some .boolean)) from rfl))
theorem pm_cw232 : Cond.code (pm_y 232) (pm_c 232) (pm_n 232) (pm_r 232) ∈ lw_tbl := pm_tb6 (List.mem_of_getElem? (i := 76) (show tables_1_7[76]? = some (Cond.code yX12_isGoal cX12_isGoal 3 (some .boolean)) from rfl))
theorem pm_cw233 : Cond.code (pm_y 233) (pm_c 233) (pm_n 233) (pm_r 233) ∈ lw_tbl := pm_tb6 (List.mem_of_getElem? (i := 68) (show tables_1_7[68]? = some (Cond.code yX12_findsRow cX12_findsRow 6 (some .boolean)) from rfl))
theorem pm_cw234 : Cond.code (pm_y 234) (pm_c 234) (pm_n 234) (pm_r 234) ∈ lw_tbl := pm_tb6 (List.mem_of_getElem? (i := 64) (show tables_1_7[64]? = some (Cond.code yX12_findsFewest cX12_findsFewest 5 none) from rfl))
theorem pm_cw235 : Cond.code (pm_y 235) (pm_c 235) (pm_n 235) (pm_r 235) ∈ lw_tbl := pm_tb6 (List.mem_of_getElem? (i := 96) (show tables_1_7[96]? = some (Cond.code yX12_answerOfRow cX12_answerOfRow 2 (some .int)) from rfl))
theorem pm_cw236 : Cond.code (pm_y 236) (pm_c 236) (pm_n 236) (pm_r 236) ∈ lw_tbl := pm_tb6 (List.mem_of_getElem? (i := 54) (show tables_1_7[54]? = some (Cond.code yX12_folds cX12_folds 3 (some .int)) from rfl))
theorem pm_cw237 : Cond.code (pm_y 237) (pm_c 237) (pm_n 237) (pm_r 237) ∈ lw_tbl := pm_tb6 (List.mem_of_getElem? (i := 100) (show tables_1_7[100]? = some (Cond.code yX12_own cX12_own 4 (some .int)) from rfl))
theorem pm_cw238 : Cond.code (pm_y 238) (pm_c 238) (pm_n 238) (pm_r 238) ∈ lw_tbl := pm_tb6 (List.mem_of_getElem? (i := 126) (show tables_1_7[126]? = some (Cond.code yX12_isBetween cX12_isBetween 3 (some .boolean)) from rfl))
theorem pm_cw239 : Cond.code (pm_y 239) (pm_c 239) (pm_n 239) (pm_r 239) ∈ lw_tbl := pm_tb6 (List.mem_of_getElem? (i := 123) (show tables_1_7[123]? = some (Cond.code yX12_isUncrossed cX12_isUncrossed 4 (some .boolean)) from rfl))
theorem pm_cw240 : Cond.code (pm_y 240) (pm_c 240) (pm_n 240) (pm_r 240) ∈ lw_tbl := pm_tb6 (List.mem_of_getElem? (i := 130) (show tables_1_7[130]? = some (Cond.code yX12_hills cX12_hills 3 (some .int)) from rfl))
theorem pm_cw241 : Cond.code (pm_y 241) (pm_c 241) (pm_n 241) (pm_r 241) ∈ lw_tbl := pm_tb6 (List.mem_of_getElem? (i := 134) (show tables_1_7[134]? = some (Cond.code yX12_isAsMarked cX12_isAsMarked 4 (some .boolean)) from rfl))
theorem pm_cw242 : Cond.code (pm_y 242) (pm_c 242) (pm_n 242) (pm_r 242) ∈ lw_tbl := pm_tb6 (List.mem_of_getElem? (i := 119) (show tables_1_7[119]? = some (Cond.code yX12_keepsStack cX12_keepsStack 3 none) from rfl))
theorem pm_cw243 : Cond.code (pm_y 243) (pm_c 243) (pm_n 243) (pm_r 243) ∈ lw_tbl := pm_tb6 (List.mem_of_getElem? (i := 115) (show tables_1_7[115]? = some (Cond.code yX12_isUsed cX12_isUsed 4 (some .boolean)) from rfl))
theorem pm_cw244 : Cond.code (pm_y 244) (pm_c 244) (pm_n 244) (pm_r 244) ∈ lw_tbl := pm_tb6 (List.mem_of_getElem? (i := 111) (show tables_1_7[111]? = some (Cond.code yX12_findsStacks cX12_findsStacks 2 none) from rfl))
theorem pm_cw245 : Cond.code (pm_y 245) (pm_c 245) (pm_n 245) (pm_r 245) ∈ lw_tbl := pm_tb6 (List.mem_of_getElem? (i := 104) (show tables_1_7[104]? = some (Cond.code yX12_stacks cX12_stacks 5 (some .int)) from rfl))
theorem pm_cw246 : Cond.code (pm_y 246) (pm_c 246) (pm_n 246) (pm_r 246) ∈ lw_tbl := pm_tb6 (List.mem_of_getElem? (i := 141) (show tables_1_7[141]? = some (Cond.code yX12_peek cX12_peek 7 (some .int)) from rfl))
theorem pm_cw247 : Cond.code (pm_y 247) (pm_c 247) (pm_n 247) (pm_r 247) ∈ lw_tbl := pm_tb6 (List.mem_of_getElem? (i := 145) (show tables_1_7[145]? = some (Cond.code yX12_richest cX12_richest 4 (some .int)) from rfl))
theorem pm_cw248 : Cond.code (pm_y 248) (pm_c 248) (pm_n 248) (pm_r 248) ∈ lw_tbl := pm_tb6 (List.mem_of_getElem? (i := 149) (show tables_1_7[149]? = some (Cond.code yX12_last cX12_last 4 (some .int)) from rfl))
theorem pm_cw249 : Cond.code (pm_y 249) (pm_c 249) (pm_n 249) (pm_r 249) ∈ lw_tbl := pm_tb6 (List.mem_of_getElem? (i := 153) (show tables_1_7[153]? = some (Cond.code yX12_dearest cX12_dearest 7 (some .int)) from rfl))
theorem pm_cw250 : Cond.code (pm_y 250) (pm_c 250) (pm_n 250) (pm_r 250) ∈ lw_tbl := pm_tb6 (List.mem_of_getElem? (i := 157) (show tables_1_7[157]? = some (Cond.code yX12_log cX12_log 6 (some .int)) from rfl))
theorem pm_cw251 : Cond.code (pm_y 251) (pm_c 251) (pm_n 251) (pm_r 251) ∈ lw_tbl := pm_tb6 (List.mem_of_getElem? (i := 170) (show tables_1_7[170]? = some (Cond.code yX12_costAt cX12_costAt 4 (some .int)) from rfl))
theorem pm_cw252 : Cond.code (pm_y 252) (pm_c 252) (pm_n 252) (pm_r 252) ∈ lw_tbl := pm_tb6 (List.mem_of_getElem? (i := 166) (show tables_1_7[166]? = some (Cond.code yX12_fillsFits cX12_fillsFits 6 none) from rfl))
theorem pm_cw253 : Cond.code (pm_y 253) (pm_c 253) (pm_n 253) (pm_r 253) ∈ lw_tbl := pm_tb6 (List.mem_of_getElem? (i := 162) (show tables_1_7[162]? = some (Cond.code yX12_ruled cX12_ruled 5 (some .int)) from rfl))
theorem pm_cw254 : Cond.code (pm_y 254) (pm_c 254) (pm_n 254) (pm_r 254) ∈ lw_tbl := pm_tb6 (List.mem_of_getElem? (i := 178) (show tables_1_7[178]? = some (Cond.code yX12_alikeAt cX12_alikeAt 6 (some .int)) from rfl))
theorem pm_cw255 : Cond.code (pm_y 255) (pm_c 255) (pm_n 255) (pm_r 255) ∈ lw_tbl := pm_tb6 (List.mem_of_getElem? (i := 174) (show tables_1_7[174]? = some (Cond.code yX12_look cX12_look 4 (some .int)) from rfl))
theorem pm_cw256 : Cond.code (pm_y 256) (pm_c 256) (pm_n 256) (pm_r 256) ∈ lw_tbl := pm_tb6 (List.mem_of_getElem? (i := 182) (show tables_1_7[182]? = some (Cond.code yX12_seed cX12_seed 3 (some .int)) from rfl))
theorem pm_cw257 : Cond.code (pm_y 257) (pm_c 257) (pm_n 257) (pm_r 257) ∈ lw_tbl := pm_tb6 (List.mem_of_getElem? (i := 195) (show tables_1_7[195]? = some (Cond.code yX12_draw cX12_draw 2 (some .int)) from rfl))
theorem pm_cw258 : Cond.code (pm_y 258) (pm_c 258) (pm_n 258) (pm_r 258) ∈ lw_tbl := pm_tb6 (List.mem_of_getElem? (i := 191) (show tables_1_7[191]? = some (Cond.code yX12_foldsDrawn cX12_foldsDrawn 4 (some .boolean)) from rfl))
theorem pm_cw259 : Cond.code (pm_y 259) (pm_c 259) (pm_n 259) (pm_r 259) ∈ lw_tbl := pm_tb6 (List.mem_of_getElem? (i := 186) (show tables_1_7[186]? = some (Cond.code yX12_days cX12_days 7 (some .int)) from rfl))
theorem pm_cw260 : Cond.code (pm_y 260) (pm_c 260) (pm_n 260) (pm_r 260) ∈ lw_tbl := pm_tb6 (List.mem_of_getElem? (i := 203) (show tables_1_7[203]? = some (Cond.code yX12_count cX12_count 4 (some .int)) from rfl))
theorem pm_cw261 : Cond.code (pm_y 261) (pm_c 261) (pm_n 261) (pm_r 261) ∈ lw_tbl := pm_tb6 (List.mem_of_getElem? (i := 207) (show tables_1_7[207]? = some (Cond.code yX12_image cX12_image 3 (some .int)) from rfl))
theorem pm_cw262 : Cond.code (pm_y 262) (pm_c 262) (pm_n 262) (pm_r 262) ∈ lw_tbl := pm_tb6 (List.mem_of_getElem? (i := 212) (show tables_1_7[212]? = some (Cond.code yX12_back cX12_back 3 (some .int)) from rfl))
theorem pm_cw263 : Cond.code (pm_y 263) (pm_c 263) (pm_n 263) (pm_r 263) ∈ lw_tbl := pm_tb2 (List.mem_of_getElem? (i := 212) (show tables_1_3[212]? = some (Cond.code yJ6_bitCount_0f7a4 cJ6_bitCount_0f7a4 1 (some .int)) from rfl))
theorem pm_cwall : ∀ k, k < 264 → Cond.code (pm_y k) (pm_c k) (pm_n k) (pm_r k) ∈ lw_tbl := by
  intro k hk
  by_cases h0_264 : k < 132
  · skip
    by_cases h0_132 : k < 66
    · skip
      by_cases h0_66 : k < 33
      · skip
        by_cases h0_33 : k < 16
        · skip
          by_cases h0_16 : k < 8
          · skip
            by_cases h0_8 : k < 4
            · skip
              by_cases h0_4 : k < 2
              · skip
                by_cases h0_2 : k < 1
                · skip
                  obtain rfl : k = 0 := by omega
                  exact pm_cw0
                · skip
                  obtain rfl : k = 1 := by omega
                  exact pm_cw1
              · skip
                by_cases h2_4 : k < 3
                · skip
                  obtain rfl : k = 2 := by omega
                  exact pm_cw2
                · skip
                  obtain rfl : k = 3 := by omega
                  exact pm_cw3
            · skip
              by_cases h4_8 : k < 6
              · skip
                by_cases h4_6 : k < 5
                · skip
                  obtain rfl : k = 4 := by omega
                  exact pm_cw4
                · skip
                  obtain rfl : k = 5 := by omega
                  exact pm_cw5
              · skip
                by_cases h6_8 : k < 7
                · skip
                  obtain rfl : k = 6 := by omega
                  exact pm_cw6
                · skip
                  obtain rfl : k = 7 := by omega
                  exact pm_cw7
          · skip
            by_cases h8_16 : k < 12
            · skip
              by_cases h8_12 : k < 10
              · skip
                by_cases h8_10 : k < 9
                · skip
                  obtain rfl : k = 8 := by omega
                  exact pm_cw8
                · skip
                  obtain rfl : k = 9 := by omega
                  exact pm_cw9
              · skip
                by_cases h10_12 : k < 11
                · skip
                  obtain rfl : k = 10 := by omega
                  exact pm_cw10
                · skip
                  obtain rfl : k = 11 := by omega
                  exact pm_cw11
            · skip
              by_cases h12_16 : k < 14
              · skip
                by_cases h12_14 : k < 13
                · skip
                  obtain rfl : k = 12 := by omega
                  exact pm_cw12
                · skip
                  obtain rfl : k = 13 := by omega
                  exact pm_cw13
              · skip
                by_cases h14_16 : k < 15
                · skip
                  obtain rfl : k = 14 := by omega
                  exact pm_cw14
                · skip
                  obtain rfl : k = 15 := by omega
                  exact pm_cw15
        · skip
          by_cases h16_33 : k < 24
          · skip
            by_cases h16_24 : k < 20
            · skip
              by_cases h16_20 : k < 18
              · skip
                by_cases h16_18 : k < 17
                · skip
                  obtain rfl : k = 16 := by omega
                  exact pm_cw16
                · skip
                  obtain rfl : k = 17 := by omega
                  exact pm_cw17
              · skip
                by_cases h18_20 : k < 19
                · skip
                  obtain rfl : k = 18 := by omega
                  exact pm_cw18
                · skip
                  obtain rfl : k = 19 := by omega
                  exact pm_cw19
            · skip
              by_cases h20_24 : k < 22
              · skip
                by_cases h20_22 : k < 21
                · skip
                  obtain rfl : k = 20 := by omega
                  exact pm_cw20
                · skip
                  obtain rfl : k = 21 := by omega
                  exact pm_cw21
              · skip
                by_cases h22_24 : k < 23
                · skip
                  obtain rfl : k = 22 := by omega
                  exact pm_cw22
                · skip
                  obtain rfl : k = 23 := by omega
                  exact pm_cw23
          · skip
            by_cases h24_33 : k < 28
            · skip
              by_cases h24_28 : k < 26
              · skip
                by_cases h24_26 : k < 25
                · skip
                  obtain rfl : k = 24 := by omega
                  exact pm_cw24
                · skip
                  obtain rfl : k = 25 := by omega
                  exact pm_cw25
              · skip
                by_cases h26_28 : k < 27
                · skip
                  obtain rfl : k = 26 := by omega
                  exact pm_cw26
                · skip
                  obtain rfl : k = 27 := by omega
                  exact pm_cw27
            · skip
              by_cases h28_33 : k < 30
              · skip
                by_cases h28_30 : k < 29
                · skip
                  obtain rfl : k = 28 := by omega
                  exact pm_cw28
                · skip
                  obtain rfl : k = 29 := by omega
                  exact pm_cw29
              · skip
                by_cases h30_33 : k < 31
                · skip
                  obtain rfl : k = 30 := by omega
                  exact pm_cw30
                · skip
                  by_cases h31_33 : k < 32
                  · skip
                    obtain rfl : k = 31 := by omega
                    exact pm_cw31
                  · skip
                    obtain rfl : k = 32 := by omega
                    exact pm_cw32
      · skip
        by_cases h33_66 : k < 49
        · skip
          by_cases h33_49 : k < 41
          · skip
            by_cases h33_41 : k < 37
            · skip
              by_cases h33_37 : k < 35
              · skip
                by_cases h33_35 : k < 34
                · skip
                  obtain rfl : k = 33 := by omega
                  exact pm_cw33
                · skip
                  obtain rfl : k = 34 := by omega
                  exact pm_cw34
              · skip
                by_cases h35_37 : k < 36
                · skip
                  obtain rfl : k = 35 := by omega
                  exact pm_cw35
                · skip
                  obtain rfl : k = 36 := by omega
                  exact pm_cw36
            · skip
              by_cases h37_41 : k < 39
              · skip
                by_cases h37_39 : k < 38
                · skip
                  obtain rfl : k = 37 := by omega
                  exact pm_cw37
                · skip
                  obtain rfl : k = 38 := by omega
                  exact pm_cw38
              · skip
                by_cases h39_41 : k < 40
                · skip
                  obtain rfl : k = 39 := by omega
                  exact pm_cw39
                · skip
                  obtain rfl : k = 40 := by omega
                  exact pm_cw40
          · skip
            by_cases h41_49 : k < 45
            · skip
              by_cases h41_45 : k < 43
              · skip
                by_cases h41_43 : k < 42
                · skip
                  obtain rfl : k = 41 := by omega
                  exact pm_cw41
                · skip
                  obtain rfl : k = 42 := by omega
                  exact pm_cw42
              · skip
                by_cases h43_45 : k < 44
                · skip
                  obtain rfl : k = 43 := by omega
                  exact pm_cw43
                · skip
                  obtain rfl : k = 44 := by omega
                  exact pm_cw44
            · skip
              by_cases h45_49 : k < 47
              · skip
                by_cases h45_47 : k < 46
                · skip
                  obtain rfl : k = 45 := by omega
                  exact pm_cw45
                · skip
                  obtain rfl : k = 46 := by omega
                  exact pm_cw46
              · skip
                by_cases h47_49 : k < 48
                · skip
                  obtain rfl : k = 47 := by omega
                  exact pm_cw47
                · skip
                  obtain rfl : k = 48 := by omega
                  exact pm_cw48
        · skip
          by_cases h49_66 : k < 57
          · skip
            by_cases h49_57 : k < 53
            · skip
              by_cases h49_53 : k < 51
              · skip
                by_cases h49_51 : k < 50
                · skip
                  obtain rfl : k = 49 := by omega
                  exact pm_cw49
                · skip
                  obtain rfl : k = 50 := by omega
                  exact pm_cw50
              · skip
                by_cases h51_53 : k < 52
                · skip
                  obtain rfl : k = 51 := by omega
                  exact pm_cw51
                · skip
                  obtain rfl : k = 52 := by omega
                  exact pm_cw52
            · skip
              by_cases h53_57 : k < 55
              · skip
                by_cases h53_55 : k < 54
                · skip
                  obtain rfl : k = 53 := by omega
                  exact pm_cw53
                · skip
                  obtain rfl : k = 54 := by omega
                  exact pm_cw54
              · skip
                by_cases h55_57 : k < 56
                · skip
                  obtain rfl : k = 55 := by omega
                  exact pm_cw55
                · skip
                  obtain rfl : k = 56 := by omega
                  exact pm_cw56
          · skip
            by_cases h57_66 : k < 61
            · skip
              by_cases h57_61 : k < 59
              · skip
                by_cases h57_59 : k < 58
                · skip
                  obtain rfl : k = 57 := by omega
                  exact pm_cw57
                · skip
                  obtain rfl : k = 58 := by omega
                  exact pm_cw58
              · skip
                by_cases h59_61 : k < 60
                · skip
                  obtain rfl : k = 59 := by omega
                  exact pm_cw59
                · skip
                  obtain rfl : k = 60 := by omega
                  exact pm_cw60
            · skip
              by_cases h61_66 : k < 63
              · skip
                by_cases h61_63 : k < 62
                · skip
                  obtain rfl : k = 61 := by omega
                  exact pm_cw61
                · skip
                  obtain rfl : k = 62 := by omega
                  exact pm_cw62
              · skip
                by_cases h63_66 : k < 64
                · skip
                  obtain rfl : k = 63 := by omega
                  exact pm_cw63
                · skip
                  by_cases h64_66 : k < 65
                  · skip
                    obtain rfl : k = 64 := by omega
                    exact pm_cw64
                  · skip
                    obtain rfl : k = 65 := by omega
                    exact pm_cw65
    · skip
      by_cases h66_132 : k < 99
      · skip
        by_cases h66_99 : k < 82
        · skip
          by_cases h66_82 : k < 74
          · skip
            by_cases h66_74 : k < 70
            · skip
              by_cases h66_70 : k < 68
              · skip
                by_cases h66_68 : k < 67
                · skip
                  obtain rfl : k = 66 := by omega
                  exact pm_cw66
                · skip
                  obtain rfl : k = 67 := by omega
                  exact pm_cw67
              · skip
                by_cases h68_70 : k < 69
                · skip
                  obtain rfl : k = 68 := by omega
                  exact pm_cw68
                · skip
                  obtain rfl : k = 69 := by omega
                  exact pm_cw69
            · skip
              by_cases h70_74 : k < 72
              · skip
                by_cases h70_72 : k < 71
                · skip
                  obtain rfl : k = 70 := by omega
                  exact pm_cw70
                · skip
                  obtain rfl : k = 71 := by omega
                  exact pm_cw71
              · skip
                by_cases h72_74 : k < 73
                · skip
                  obtain rfl : k = 72 := by omega
                  exact pm_cw72
                · skip
                  obtain rfl : k = 73 := by omega
                  exact pm_cw73
          · skip
            by_cases h74_82 : k < 78
            · skip
              by_cases h74_78 : k < 76
              · skip
                by_cases h74_76 : k < 75
                · skip
                  obtain rfl : k = 74 := by omega
                  exact pm_cw74
                · skip
                  obtain rfl : k = 75 := by omega
                  exact pm_cw75
              · skip
                by_cases h76_78 : k < 77
                · skip
                  obtain rfl : k = 76 := by omega
                  exact pm_cw76
                · skip
                  obtain rfl : k = 77 := by omega
                  exact pm_cw77
            · skip
              by_cases h78_82 : k < 80
              · skip
                by_cases h78_80 : k < 79
                · skip
                  obtain rfl : k = 78 := by omega
                  exact pm_cw78
                · skip
                  obtain rfl : k = 79 := by omega
                  exact pm_cw79
              · skip
                by_cases h80_82 : k < 81
                · skip
                  obtain rfl : k = 80 := by omega
                  exact pm_cw80
                · skip
                  obtain rfl : k = 81 := by omega
                  exact pm_cw81
        · skip
          by_cases h82_99 : k < 90
          · skip
            by_cases h82_90 : k < 86
            · skip
              by_cases h82_86 : k < 84
              · skip
                by_cases h82_84 : k < 83
                · skip
                  obtain rfl : k = 82 := by omega
                  exact pm_cw82
                · skip
                  obtain rfl : k = 83 := by omega
                  exact pm_cw83
              · skip
                by_cases h84_86 : k < 85
                · skip
                  obtain rfl : k = 84 := by omega
                  exact pm_cw84
                · skip
                  obtain rfl : k = 85 := by omega
                  exact pm_cw85
            · skip
              by_cases h86_90 : k < 88
              · skip
                by_cases h86_88 : k < 87
                · skip
                  obtain rfl : k = 86 := by omega
                  exact pm_cw86
                · skip
                  obtain rfl : k = 87 := by omega
                  exact pm_cw87
              · skip
                by_cases h88_90 : k < 89
                · skip
                  obtain rfl : k = 88 := by omega
                  exact pm_cw88
                · skip
                  obtain rfl : k = 89 := by omega
                  exact pm_cw89
          · skip
            by_cases h90_99 : k < 94
            · skip
              by_cases h90_94 : k < 92
              · skip
                by_cases h90_92 : k < 91
                · skip
                  obtain rfl : k = 90 := by omega
                  exact pm_cw90
                · skip
                  obtain rfl : k = 91 := by omega
                  exact pm_cw91
              · skip
                by_cases h92_94 : k < 93
                · skip
                  obtain rfl : k = 92 := by omega
                  exact pm_cw92
                · skip
                  obtain rfl : k = 93 := by omega
                  exact pm_cw93
            · skip
              by_cases h94_99 : k < 96
              · skip
                by_cases h94_96 : k < 95
                · skip
                  obtain rfl : k = 94 := by omega
                  exact pm_cw94
                · skip
                  obtain rfl : k = 95 := by omega
                  exact pm_cw95
              · skip
                by_cases h96_99 : k < 97
                · skip
                  obtain rfl : k = 96 := by omega
                  exact pm_cw96
                · skip
                  by_cases h97_99 : k < 98
                  · skip
                    obtain rfl : k = 97 := by omega
                    exact pm_cw97
                  · skip
                    obtain rfl : k = 98 := by omega
                    exact pm_cw98
      · skip
        by_cases h99_132 : k < 115
        · skip
          by_cases h99_115 : k < 107
          · skip
            by_cases h99_107 : k < 103
            · skip
              by_cases h99_103 : k < 101
              · skip
                by_cases h99_101 : k < 100
                · skip
                  obtain rfl : k = 99 := by omega
                  exact pm_cw99
                · skip
                  obtain rfl : k = 100 := by omega
                  exact pm_cw100
              · skip
                by_cases h101_103 : k < 102
                · skip
                  obtain rfl : k = 101 := by omega
                  exact pm_cw101
                · skip
                  obtain rfl : k = 102 := by omega
                  exact pm_cw102
            · skip
              by_cases h103_107 : k < 105
              · skip
                by_cases h103_105 : k < 104
                · skip
                  obtain rfl : k = 103 := by omega
                  exact pm_cw103
                · skip
                  obtain rfl : k = 104 := by omega
                  exact pm_cw104
              · skip
                by_cases h105_107 : k < 106
                · skip
                  obtain rfl : k = 105 := by omega
                  exact pm_cw105
                · skip
                  obtain rfl : k = 106 := by omega
                  exact pm_cw106
          · skip
            by_cases h107_115 : k < 111
            · skip
              by_cases h107_111 : k < 109
              · skip
                by_cases h107_109 : k < 108
                · skip
                  obtain rfl : k = 107 := by omega
                  exact pm_cw107
                · skip
                  obtain rfl : k = 108 := by omega
                  exact pm_cw108
              · skip
                by_cases h109_111 : k < 110
                · skip
                  obtain rfl : k = 109 := by omega
                  exact pm_cw109
                · skip
                  obtain rfl : k = 110 := by omega
                  exact pm_cw110
            · skip
              by_cases h111_115 : k < 113
              · skip
                by_cases h111_113 : k < 112
                · skip
                  obtain rfl : k = 111 := by omega
                  exact pm_cw111
                · skip
                  obtain rfl : k = 112 := by omega
                  exact pm_cw112
              · skip
                by_cases h113_115 : k < 114
                · skip
                  obtain rfl : k = 113 := by omega
                  exact pm_cw113
                · skip
                  obtain rfl : k = 114 := by omega
                  exact pm_cw114
        · skip
          by_cases h115_132 : k < 123
          · skip
            by_cases h115_123 : k < 119
            · skip
              by_cases h115_119 : k < 117
              · skip
                by_cases h115_117 : k < 116
                · skip
                  obtain rfl : k = 115 := by omega
                  exact pm_cw115
                · skip
                  obtain rfl : k = 116 := by omega
                  exact pm_cw116
              · skip
                by_cases h117_119 : k < 118
                · skip
                  obtain rfl : k = 117 := by omega
                  exact pm_cw117
                · skip
                  obtain rfl : k = 118 := by omega
                  exact pm_cw118
            · skip
              by_cases h119_123 : k < 121
              · skip
                by_cases h119_121 : k < 120
                · skip
                  obtain rfl : k = 119 := by omega
                  exact pm_cw119
                · skip
                  obtain rfl : k = 120 := by omega
                  exact pm_cw120
              · skip
                by_cases h121_123 : k < 122
                · skip
                  obtain rfl : k = 121 := by omega
                  exact pm_cw121
                · skip
                  obtain rfl : k = 122 := by omega
                  exact pm_cw122
          · skip
            by_cases h123_132 : k < 127
            · skip
              by_cases h123_127 : k < 125
              · skip
                by_cases h123_125 : k < 124
                · skip
                  obtain rfl : k = 123 := by omega
                  exact pm_cw123
                · skip
                  obtain rfl : k = 124 := by omega
                  exact pm_cw124
              · skip
                by_cases h125_127 : k < 126
                · skip
                  obtain rfl : k = 125 := by omega
                  exact pm_cw125
                · skip
                  obtain rfl : k = 126 := by omega
                  exact pm_cw126
            · skip
              by_cases h127_132 : k < 129
              · skip
                by_cases h127_129 : k < 128
                · skip
                  obtain rfl : k = 127 := by omega
                  exact pm_cw127
                · skip
                  obtain rfl : k = 128 := by omega
                  exact pm_cw128
              · skip
                by_cases h129_132 : k < 130
                · skip
                  obtain rfl : k = 129 := by omega
                  exact pm_cw129
                · skip
                  by_cases h130_132 : k < 131
                  · skip
                    obtain rfl : k = 130 := by omega
                    exact pm_cw130
                  · skip
                    obtain rfl : k = 131 := by omega
                    exact pm_cw131
  · skip
    by_cases h132_264 : k < 198
    · skip
      by_cases h132_198 : k < 165
      · skip
        by_cases h132_165 : k < 148
        · skip
          by_cases h132_148 : k < 140
          · skip
            by_cases h132_140 : k < 136
            · skip
              by_cases h132_136 : k < 134
              · skip
                by_cases h132_134 : k < 133
                · skip
                  obtain rfl : k = 132 := by omega
                  exact pm_cw132
                · skip
                  obtain rfl : k = 133 := by omega
                  exact pm_cw133
              · skip
                by_cases h134_136 : k < 135
                · skip
                  obtain rfl : k = 134 := by omega
                  exact pm_cw134
                · skip
                  obtain rfl : k = 135 := by omega
                  exact pm_cw135
            · skip
              by_cases h136_140 : k < 138
              · skip
                by_cases h136_138 : k < 137
                · skip
                  obtain rfl : k = 136 := by omega
                  exact pm_cw136
                · skip
                  obtain rfl : k = 137 := by omega
                  exact pm_cw137
              · skip
                by_cases h138_140 : k < 139
                · skip
                  obtain rfl : k = 138 := by omega
                  exact pm_cw138
                · skip
                  obtain rfl : k = 139 := by omega
                  exact pm_cw139
          · skip
            by_cases h140_148 : k < 144
            · skip
              by_cases h140_144 : k < 142
              · skip
                by_cases h140_142 : k < 141
                · skip
                  obtain rfl : k = 140 := by omega
                  exact pm_cw140
                · skip
                  obtain rfl : k = 141 := by omega
                  exact pm_cw141
              · skip
                by_cases h142_144 : k < 143
                · skip
                  obtain rfl : k = 142 := by omega
                  exact pm_cw142
                · skip
                  obtain rfl : k = 143 := by omega
                  exact pm_cw143
            · skip
              by_cases h144_148 : k < 146
              · skip
                by_cases h144_146 : k < 145
                · skip
                  obtain rfl : k = 144 := by omega
                  exact pm_cw144
                · skip
                  obtain rfl : k = 145 := by omega
                  exact pm_cw145
              · skip
                by_cases h146_148 : k < 147
                · skip
                  obtain rfl : k = 146 := by omega
                  exact pm_cw146
                · skip
                  obtain rfl : k = 147 := by omega
                  exact pm_cw147
        · skip
          by_cases h148_165 : k < 156
          · skip
            by_cases h148_156 : k < 152
            · skip
              by_cases h148_152 : k < 150
              · skip
                by_cases h148_150 : k < 149
                · skip
                  obtain rfl : k = 148 := by omega
                  exact pm_cw148
                · skip
                  obtain rfl : k = 149 := by omega
                  exact pm_cw149
              · skip
                by_cases h150_152 : k < 151
                · skip
                  obtain rfl : k = 150 := by omega
                  exact pm_cw150
                · skip
                  obtain rfl : k = 151 := by omega
                  exact pm_cw151
            · skip
              by_cases h152_156 : k < 154
              · skip
                by_cases h152_154 : k < 153
                · skip
                  obtain rfl : k = 152 := by omega
                  exact pm_cw152
                · skip
                  obtain rfl : k = 153 := by omega
                  exact pm_cw153
              · skip
                by_cases h154_156 : k < 155
                · skip
                  obtain rfl : k = 154 := by omega
                  exact pm_cw154
                · skip
                  obtain rfl : k = 155 := by omega
                  exact pm_cw155
          · skip
            by_cases h156_165 : k < 160
            · skip
              by_cases h156_160 : k < 158
              · skip
                by_cases h156_158 : k < 157
                · skip
                  obtain rfl : k = 156 := by omega
                  exact pm_cw156
                · skip
                  obtain rfl : k = 157 := by omega
                  exact pm_cw157
              · skip
                by_cases h158_160 : k < 159
                · skip
                  obtain rfl : k = 158 := by omega
                  exact pm_cw158
                · skip
                  obtain rfl : k = 159 := by omega
                  exact pm_cw159
            · skip
              by_cases h160_165 : k < 162
              · skip
                by_cases h160_162 : k < 161
                · skip
                  obtain rfl : k = 160 := by omega
                  exact pm_cw160
                · skip
                  obtain rfl : k = 161 := by omega
                  exact pm_cw161
              · skip
                by_cases h162_165 : k < 163
                · skip
                  obtain rfl : k = 162 := by omega
                  exact pm_cw162
                · skip
                  by_cases h163_165 : k < 164
                  · skip
                    obtain rfl : k = 163 := by omega
                    exact pm_cw163
                  · skip
                    obtain rfl : k = 164 := by omega
                    exact pm_cw164
      · skip
        by_cases h165_198 : k < 181
        · skip
          by_cases h165_181 : k < 173
          · skip
            by_cases h165_173 : k < 169
            · skip
              by_cases h165_169 : k < 167
              · skip
                by_cases h165_167 : k < 166
                · skip
                  obtain rfl : k = 165 := by omega
                  exact pm_cw165
                · skip
                  obtain rfl : k = 166 := by omega
                  exact pm_cw166
              · skip
                by_cases h167_169 : k < 168
                · skip
                  obtain rfl : k = 167 := by omega
                  exact pm_cw167
                · skip
                  obtain rfl : k = 168 := by omega
                  exact pm_cw168
            · skip
              by_cases h169_173 : k < 171
              · skip
                by_cases h169_171 : k < 170
                · skip
                  obtain rfl : k = 169 := by omega
                  exact pm_cw169
                · skip
                  obtain rfl : k = 170 := by omega
                  exact pm_cw170
              · skip
                by_cases h171_173 : k < 172
                · skip
                  obtain rfl : k = 171 := by omega
                  exact pm_cw171
                · skip
                  obtain rfl : k = 172 := by omega
                  exact pm_cw172
          · skip
            by_cases h173_181 : k < 177
            · skip
              by_cases h173_177 : k < 175
              · skip
                by_cases h173_175 : k < 174
                · skip
                  obtain rfl : k = 173 := by omega
                  exact pm_cw173
                · skip
                  obtain rfl : k = 174 := by omega
                  exact pm_cw174
              · skip
                by_cases h175_177 : k < 176
                · skip
                  obtain rfl : k = 175 := by omega
                  exact pm_cw175
                · skip
                  obtain rfl : k = 176 := by omega
                  exact pm_cw176
            · skip
              by_cases h177_181 : k < 179
              · skip
                by_cases h177_179 : k < 178
                · skip
                  obtain rfl : k = 177 := by omega
                  exact pm_cw177
                · skip
                  obtain rfl : k = 178 := by omega
                  exact pm_cw178
              · skip
                by_cases h179_181 : k < 180
                · skip
                  obtain rfl : k = 179 := by omega
                  exact pm_cw179
                · skip
                  obtain rfl : k = 180 := by omega
                  exact pm_cw180
        · skip
          by_cases h181_198 : k < 189
          · skip
            by_cases h181_189 : k < 185
            · skip
              by_cases h181_185 : k < 183
              · skip
                by_cases h181_183 : k < 182
                · skip
                  obtain rfl : k = 181 := by omega
                  exact pm_cw181
                · skip
                  obtain rfl : k = 182 := by omega
                  exact pm_cw182
              · skip
                by_cases h183_185 : k < 184
                · skip
                  obtain rfl : k = 183 := by omega
                  exact pm_cw183
                · skip
                  obtain rfl : k = 184 := by omega
                  exact pm_cw184
            · skip
              by_cases h185_189 : k < 187
              · skip
                by_cases h185_187 : k < 186
                · skip
                  obtain rfl : k = 185 := by omega
                  exact pm_cw185
                · skip
                  obtain rfl : k = 186 := by omega
                  exact pm_cw186
              · skip
                by_cases h187_189 : k < 188
                · skip
                  obtain rfl : k = 187 := by omega
                  exact pm_cw187
                · skip
                  obtain rfl : k = 188 := by omega
                  exact pm_cw188
          · skip
            by_cases h189_198 : k < 193
            · skip
              by_cases h189_193 : k < 191
              · skip
                by_cases h189_191 : k < 190
                · skip
                  obtain rfl : k = 189 := by omega
                  exact pm_cw189
                · skip
                  obtain rfl : k = 190 := by omega
                  exact pm_cw190
              · skip
                by_cases h191_193 : k < 192
                · skip
                  obtain rfl : k = 191 := by omega
                  exact pm_cw191
                · skip
                  obtain rfl : k = 192 := by omega
                  exact pm_cw192
            · skip
              by_cases h193_198 : k < 195
              · skip
                by_cases h193_195 : k < 194
                · skip
                  obtain rfl : k = 193 := by omega
                  exact pm_cw193
                · skip
                  obtain rfl : k = 194 := by omega
                  exact pm_cw194
              · skip
                by_cases h195_198 : k < 196
                · skip
                  obtain rfl : k = 195 := by omega
                  exact pm_cw195
                · skip
                  by_cases h196_198 : k < 197
                  · skip
                    obtain rfl : k = 196 := by omega
                    exact pm_cw196
                  · skip
                    obtain rfl : k = 197 := by omega
                    exact pm_cw197
    · skip
      by_cases h198_264 : k < 231
      · skip
        by_cases h198_231 : k < 214
        · skip
          by_cases h198_214 : k < 206
          · skip
            by_cases h198_206 : k < 202
            · skip
              by_cases h198_202 : k < 200
              · skip
                by_cases h198_200 : k < 199
                · skip
                  obtain rfl : k = 198 := by omega
                  exact pm_cw198
                · skip
                  obtain rfl : k = 199 := by omega
                  exact pm_cw199
              · skip
                by_cases h200_202 : k < 201
                · skip
                  obtain rfl : k = 200 := by omega
                  exact pm_cw200
                · skip
                  obtain rfl : k = 201 := by omega
                  exact pm_cw201
            · skip
              by_cases h202_206 : k < 204
              · skip
                by_cases h202_204 : k < 203
                · skip
                  obtain rfl : k = 202 := by omega
                  exact pm_cw202
                · skip
                  obtain rfl : k = 203 := by omega
                  exact pm_cw203
              · skip
                by_cases h204_206 : k < 205
                · skip
                  obtain rfl : k = 204 := by omega
                  exact pm_cw204
                · skip
                  obtain rfl : k = 205 := by omega
                  exact pm_cw205
          · skip
            by_cases h206_214 : k < 210
            · skip
              by_cases h206_210 : k < 208
              · skip
                by_cases h206_208 : k < 207
                · skip
                  obtain rfl : k = 206 := by omega
                  exact pm_cw206
                · skip
                  obtain rfl : k = 207 := by omega
                  exact pm_cw207
              · skip
                by_cases h208_210 : k < 209
                · skip
                  obtain rfl : k = 208 := by omega
                  exact pm_cw208
                · skip
                  obtain rfl : k = 209 := by omega
                  exact pm_cw209
            · skip
              by_cases h210_214 : k < 212
              · skip
                by_cases h210_212 : k < 211
                · skip
                  obtain rfl : k = 210 := by omega
                  exact pm_cw210
                · skip
                  obtain rfl : k = 211 := by omega
                  exact pm_cw211
              · skip
                by_cases h212_214 : k < 213
                · skip
                  obtain rfl : k = 212 := by omega
                  exact pm_cw212
                · skip
                  obtain rfl : k = 213 := by omega
                  exact pm_cw213
        · skip
          by_cases h214_231 : k < 222
          · skip
            by_cases h214_222 : k < 218
            · skip
              by_cases h214_218 : k < 216
              · skip
                by_cases h214_216 : k < 215
                · skip
                  obtain rfl : k = 214 := by omega
                  exact pm_cw214
                · skip
                  obtain rfl : k = 215 := by omega
                  exact pm_cw215
              · skip
                by_cases h216_218 : k < 217
                · skip
                  obtain rfl : k = 216 := by omega
                  exact pm_cw216
                · skip
                  obtain rfl : k = 217 := by omega
                  exact pm_cw217
            · skip
              by_cases h218_222 : k < 220
              · skip
                by_cases h218_220 : k < 219
                · skip
                  obtain rfl : k = 218 := by omega
                  exact pm_cw218
                · skip
                  obtain rfl : k = 219 := by omega
                  exact pm_cw219
              · skip
                by_cases h220_222 : k < 221
                · skip
                  obtain rfl : k = 220 := by omega
                  exact pm_cw220
                · skip
                  obtain rfl : k = 221 := by omega
                  exact pm_cw221
          · skip
            by_cases h222_231 : k < 226
            · skip
              by_cases h222_226 : k < 224
              · skip
                by_cases h222_224 : k < 223
                · skip
                  obtain rfl : k = 222 := by omega
                  exact pm_cw222
                · skip
                  obtain rfl : k = 223 := by omega
                  exact pm_cw223
              · skip
                by_cases h224_226 : k < 225
                · skip
                  obtain rfl : k = 224 := by omega
                  exact pm_cw224
                · skip
                  obtain rfl : k = 225 := by omega
                  exact pm_cw225
            · skip
              by_cases h226_231 : k < 228
              · skip
                by_cases h226_228 : k < 227
                · skip
                  obtain rfl : k = 226 := by omega
                  exact pm_cw226
                · skip
                  obtain rfl : k = 227 := by omega
                  exact pm_cw227
              · skip
                by_cases h228_231 : k < 229
                · skip
                  obtain rfl : k = 228 := by omega
                  exact pm_cw228
                · skip
                  by_cases h229_231 : k < 230
                  · skip
                    obtain rfl : k = 229 := by omega
                    exact pm_cw229
                  · skip
                    obtain rfl : k = 230 := by omega
                    exact pm_cw230
      · skip
        by_cases h231_264 : k < 247
        · skip
          by_cases h231_247 : k < 239
          · skip
            by_cases h231_239 : k < 235
            · skip
              by_cases h231_235 : k < 233
              · skip
                by_cases h231_233 : k < 232
                · skip
                  obtain rfl : k = 231 := by omega
                  exact pm_cw231
                · skip
                  obtain rfl : k = 232 := by omega
                  exact pm_cw232
              · skip
                by_cases h233_235 : k < 234
                · skip
                  obtain rfl : k = 233 := by omega
                  exact pm_cw233
                · skip
                  obtain rfl : k = 234 := by omega
                  exact pm_cw234
            · skip
              by_cases h235_239 : k < 237
              · skip
                by_cases h235_237 : k < 236
                · skip
                  obtain rfl : k = 235 := by omega
                  exact pm_cw235
                · skip
                  obtain rfl : k = 236 := by omega
                  exact pm_cw236
              · skip
                by_cases h237_239 : k < 238
                · skip
                  obtain rfl : k = 237 := by omega
                  exact pm_cw237
                · skip
                  obtain rfl : k = 238 := by omega
                  exact pm_cw238
          · skip
            by_cases h239_247 : k < 243
            · skip
              by_cases h239_243 : k < 241
              · skip
                by_cases h239_241 : k < 240
                · skip
                  obtain rfl : k = 239 := by omega
                  exact pm_cw239
                · skip
                  obtain rfl : k = 240 := by omega
                  exact pm_cw240
              · skip
                by_cases h241_243 : k < 242
                · skip
                  obtain rfl : k = 241 := by omega
                  exact pm_cw241
                · skip
                  obtain rfl : k = 242 := by omega
                  exact pm_cw242
            · skip
              by_cases h243_247 : k < 245
              · skip
                by_cases h243_245 : k < 244
                · skip
                  obtain rfl : k = 243 := by omega
                  exact pm_cw243
                · skip
                  obtain rfl : k = 244 := by omega
                  exact pm_cw244
              · skip
                by_cases h245_247 : k < 246
                · skip
                  obtain rfl : k = 245 := by omega
                  exact pm_cw245
                · skip
                  obtain rfl : k = 246 := by omega
                  exact pm_cw246
        · skip
          by_cases h247_264 : k < 255
          · skip
            by_cases h247_255 : k < 251
            · skip
              by_cases h247_251 : k < 249
              · skip
                by_cases h247_249 : k < 248
                · skip
                  obtain rfl : k = 247 := by omega
                  exact pm_cw247
                · skip
                  obtain rfl : k = 248 := by omega
                  exact pm_cw248
              · skip
                by_cases h249_251 : k < 250
                · skip
                  obtain rfl : k = 249 := by omega
                  exact pm_cw249
                · skip
                  obtain rfl : k = 250 := by omega
                  exact pm_cw250
            · skip
              by_cases h251_255 : k < 253
              · skip
                by_cases h251_253 : k < 252
                · skip
                  obtain rfl : k = 251 := by omega
                  exact pm_cw251
                · skip
                  obtain rfl : k = 252 := by omega
                  exact pm_cw252
              · skip
                by_cases h253_255 : k < 254
                · skip
                  obtain rfl : k = 253 := by omega
                  exact pm_cw253
                · skip
                  obtain rfl : k = 254 := by omega
                  exact pm_cw254
          · skip
            by_cases h255_264 : k < 259
            · skip
              by_cases h255_259 : k < 257
              · skip
                by_cases h255_257 : k < 256
                · skip
                  obtain rfl : k = 255 := by omega
                  exact pm_cw255
                · skip
                  obtain rfl : k = 256 := by omega
                  exact pm_cw256
              · skip
                by_cases h257_259 : k < 258
                · skip
                  obtain rfl : k = 257 := by omega
                  exact pm_cw257
                · skip
                  obtain rfl : k = 258 := by omega
                  exact pm_cw258
            · skip
              by_cases h259_264 : k < 261
              · skip
                by_cases h259_261 : k < 260
                · skip
                  obtain rfl : k = 259 := by omega
                  exact pm_cw259
                · skip
                  obtain rfl : k = 260 := by omega
                  exact pm_cw260
              · skip
                by_cases h261_264 : k < 262
                · skip
                  obtain rfl : k = 261 := by omega
                  exact pm_cw261
                · skip
                  by_cases h262_264 : k < 263
                  · skip
                    obtain rfl : k = 262 := by omega
                    exact pm_cw262
                  · skip
                    obtain rfl : k = 263 := by omega
                    exact pm_cw263
