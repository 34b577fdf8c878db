/-! the words behind the tables of the pure machine, each by its place: by program (wip/whole/gen2.py) -/
def pm_w1 (w : Cond) (i : Nat) : Bool := decide (lw_tbl[i]? = some w)
theorem pm_w1_in {w : Cond} {i : Nat} (h : pm_w1 w i = true) : w ∈ lw_tbl := List.mem_of_getElem? (of_decide_eq_true h)
def pm_cN (ci : Nat) : Nat := (pm_cl.getD ci ("", fun _ => ("", "", "", false), 0)).2.2
def pm_ln (t : Nat) : MethodName := match t with
  | 1000 => Lib.objectInit
  | 1001 => Lib.Math.max.name
  | 1002 => Lib.Math.min.name
  | 1003 => Lib.MathLoose.max_long.x
  | 1004 => Lib.MathLoose.min_long.x
  | 1005 => arraycopyName
  | 1006 => ⟨"java/lang/String", "length", "()I"⟩
  | 1007 => ⟨"java/lang/String", "charAt", "(I)C"⟩
  | _ => ⟨"", "", ""⟩
def lw_g : List Cond := lw_tbl.filter goodWord
theorem lw_g_in {w : Cond} (h : w ∈ lw_tbl) (g : goodWord w = true) : w ∈ lw_g := List.mem_filter.mpr ⟨h, g⟩
theorem pm_Fok : pm_F.all (fun x => pm_w1 (.fieldLink (pm_R x.1) x.2.1 (pm_fT x.2.2.1 x.2.2.2.1).1 (pm_fT x.2.2.1 x.2.2.2.1).2.1 (pm_fT x.2.2.1 x.2.2.2.1).2.2.1) x.2.2.2.2 && (decide (x.2.2.2.1 < pm_cN x.2.2.1) && decide (x.2.2.1 < 13))) = true := by decide +kernel
theorem pm_Gok : pm_G.all (fun x => if x.2.2.1 = 9 then decide (1000 ≤ x.2.2.2.1) && pm_w1 (.methodLink (pm_R x.1) x.2.1 (pm_ln x.2.2.2.1)) x.2.2.2.2 else decide (x.2.2.2.1 < 264) && (decide (pm_k x.2.2.2.1 = (if x.2.2.1 = 3 then 2 else if x.2.2.1 = 4 then 1 else x.2.2.1)) && (if x.2.2.1 = 3 ∨ x.2.2.1 = 4 then pm_w1 (.methodLinkNest (pm_R x.1) x.2.1 (pm_y x.2.2.2.1) "FoldDeeds") x.2.2.2.2 else pm_w1 (.methodLink (pm_R x.1) x.2.1 (pm_y x.2.2.2.1)) x.2.2.2.2))) = true := by decide +kernel
theorem pm_Kok : pm_K.all (fun x => pm_w1 (.classLink (pm_R x.1) x.2.1 (pm_R x.2.2.1)) x.2.2.2 && decide (x.2.2.1 < 13)) = true := by decide +kernel
theorem pm_Nok : pm_N.all (fun x => pm_w1 (.constant (pm_R x.1) x.2.1 (Int32.ofInt x.2.2.1)) x.2.2.2) = true := by decide +kernel
theorem pm_Jok : pm_J.all (fun x => pm_w1 (.constantLong (pm_R x.1) x.2.1 (Int64.ofInt x.2.2.1)) x.2.2.2) = true := by decide +kernel
theorem pm_Sok : pm_S.all (fun x => pm_w1 (.stringRef (pm_R x.1) x.2.1 (pm_Sx.getD x.2.2.1 "")) x.2.2.2 && decide (x.2.2.1 < 7)) = true := by decide +kernel
def pm_mk (k : Nat) : Bool := pm_w1 (.initialized (pm_y k).cls) (pm_Mp.getD k (0, 0, 0, 0)).2.1 && ((if pm_k k = 1 then pm_w1 (.static (pm_y k)) (pm_Mp.getD k (0, 0, 0, 0)).2.2.1 else pm_w1 (.instanceMethod (pm_y k)) (pm_Mp.getD k (0, 0, 0, 0)).2.2.1) && ((if pm_k k = 0 then pm_w1 (.selects (pm_y k).cls (pm_y k) (pm_y k)) (pm_Mp.getD k (0, 0, 0, 0)).2.2.2 else true) && (decide ((pm_y k).cls = pm_R (pm_o k)) && (plainName (pm_y k).cls && (decide ((pm_y k).cls ≠ "java/lang/invoke/MethodHandle") && (decide ((pm_y k).cls ≠ "java/lang/invoke/VarHandle") && (decide ((parseMethodDescriptor (pm_y k).desc).map (fun d => d.parameters.length) = some (pm_a k)) && (decide (pm_n k ≤ 20) && ((if pm_k k = 2 then decide ((pm_y k).name = "<init>") && decide (pm_r k = none) else true) && (decide (pm_k k ≤ 2) && (if pm_k k = 1 then true else decide (pm_o k < 13))))))))))))
theorem pm_mk0 : pm_mk 0 = true := by decide +kernel
theorem pm_mk1 : pm_mk 1 = true := by decide +kernel
theorem pm_mk2 : pm_mk 2 = true := by decide +kernel
theorem pm_mk3 : pm_mk 3 = true := by decide +kernel
theorem pm_mk4 : pm_mk 4 = true := by decide +kernel
theorem pm_mk5 : pm_mk 5 = true := by decide +kernel
theorem pm_mk6 : pm_mk 6 = true := by decide +kernel
theorem pm_mk7 : pm_mk 7 = true := by decide +kernel
theorem pm_mk8 : pm_mk 8 = true := by decide +kernel
theorem pm_mk9 : pm_mk 9 = true := by decide +kernel
theorem pm_mk10 : pm_mk 10 = true := by decide +kernel
theorem pm_mk11 : pm_mk 11 = true := by decide +kernel
theorem pm_mk12 : pm_mk 12 = true := by decide +kernel
theorem pm_mk13 : pm_mk 13 = true := by decide +kernel
theorem pm_mk14 : pm_mk 14 = true := by decide +kernel
theorem pm_mk15 : pm_mk 15 = true := by decide +kernel
theorem pm_mk16 : pm_mk 16 = true := by decide +kernel
theorem pm_mk17 : pm_mk 17 = true := by decide +kernel
theorem pm_mk18 : pm_mk 18 = true := by decide +kernel
theorem pm_mk19 : pm_mk 19 = true := by decide +kernel
theorem pm_mk20 : pm_mk 20 = true := by decide +kernel
theorem pm_mk21 : pm_mk 21 = true := by decide +kernel
theorem pm_mk22 : pm_mk 22 = true := by decide +kernel
theorem pm_mk23 : pm_mk 23 = true := by decide +kernel
theorem pm_mk24 : pm_mk 24 = true := by decide +kernel
theorem pm_mk25 : pm_mk 25 = true := by decide +kernel
theorem pm_mk26 : pm_mk 26 = true := by decide +kernel
theorem pm_mk27 : pm_mk 27 = true := by decide +kernel
theorem pm_mk28 : pm_mk 28 = true := by decide +kernel
theorem pm_mk29 : pm_mk 29 = true := by decide +kernel
theorem pm_mk30 : pm_mk 30 = true := by decide +kernel
theorem pm_mk31 : pm_mk 31 = true := by decide +kernel
theorem pm_mk32 : pm_mk 32 = true := by decide +kernel
theorem pm_mk33 : pm_mk 33 = true := by decide +kernel
theorem pm_mk34 : pm_mk 34 = true := by decide +kernel
theorem pm_mk35 : pm_mk 35 = true := by decide +kernel
theorem pm_mk36 : pm_mk 36 = true := by decide +kernel
theorem pm_mk37 : pm_mk 37 = true := by decide +kernel
theorem pm_mk38 : pm_mk 38 = true := by decide +kernel
theorem pm_mk39 : pm_mk 39 = true := by decide +kernel
theorem pm_mk40 : pm_mk 40 = true := by decide +kernel
theorem pm_mk41 : pm_mk 41 = true := by decide +kernel
theorem pm_mk42 : pm_mk 42 = true := by decide +kernel
theorem pm_mk43 : pm_mk 43 = true := by decide +kernel
theorem pm_mk44 : pm_mk 44 = true := by decide +kernel
theorem pm_mk45 : pm_mk 45 = true := by decide +kernel
theorem pm_mk46 : pm_mk 46 = true := by decide +kernel
theorem pm_mk47 : pm_mk 47 = true := by decide +kernel
theorem pm_mk48 : pm_mk 48 = true := by decide +kernel
theorem pm_mk49 : pm_mk 49 = true := by decide +kernel
theorem pm_mk50 : pm_mk 50 = true := by decide +kernel
theorem pm_mk51 : pm_mk 51 = true := by decide +kernel
theorem pm_mk52 : pm_mk 52 = true := by decide +kernel
theorem pm_mk53 : pm_mk 53 = true := by decide +kernel
theorem pm_mk54 : pm_mk 54 = true := by decide +kernel
theorem pm_mk55 : pm_mk 55 = true := by decide +kernel
theorem pm_mk56 : pm_mk 56 = true := by decide +kernel
theorem pm_mk57 : pm_mk 57 = true := by decide +kernel
theorem pm_mk58 : pm_mk 58 = true := by decide +kernel
theorem pm_mk59 : pm_mk 59 = true := by decide +kernel
theorem pm_mk60 : pm_mk 60 = true := by decide +kernel
theorem pm_mk61 : pm_mk 61 = true := by decide +kernel
theorem pm_mk62 : pm_mk 62 = true := by decide +kernel
theorem pm_mk63 : pm_mk 63 = true := by decide +kernel
theorem pm_mk64 : pm_mk 64 = true := by decide +kernel
theorem pm_mk65 : pm_mk 65 = true := by decide +kernel
theorem pm_mk66 : pm_mk 66 = true := by decide +kernel
theorem pm_mk67 : pm_mk 67 = true := by decide +kernel
theorem pm_mk68 : pm_mk 68 = true := by decide +kernel
theorem pm_mk69 : pm_mk 69 = true := by decide +kernel
theorem pm_mk70 : pm_mk 70 = true := by decide +kernel
theorem pm_mk71 : pm_mk 71 = true := by decide +kernel
theorem pm_mk72 : pm_mk 72 = true := by decide +kernel
theorem pm_mk73 : pm_mk 73 = true := by decide +kernel
theorem pm_mk74 : pm_mk 74 = true := by decide +kernel
theorem pm_mk75 : pm_mk 75 = true := by decide +kernel
theorem pm_mk76 : pm_mk 76 = true := by decide +kernel
theorem pm_mk77 : pm_mk 77 = true := by decide +kernel
theorem pm_mk78 : pm_mk 78 = true := by decide +kernel
theorem pm_mk79 : pm_mk 79 = true := by decide +kernel
theorem pm_mk80 : pm_mk 80 = true := by decide +kernel
theorem pm_mk81 : pm_mk 81 = true := by decide +kernel
theorem pm_mk82 : pm_mk 82 = true := by decide +kernel
theorem pm_mk83 : pm_mk 83 = true := by decide +kernel
theorem pm_mk84 : pm_mk 84 = true := by decide +kernel
theorem pm_mk85 : pm_mk 85 = true := by decide +kernel
theorem pm_mk86 : pm_mk 86 = true := by decide +kernel
theorem pm_mk87 : pm_mk 87 = true := by decide +kernel
theorem pm_mk88 : pm_mk 88 = true := by decide +kernel
theorem pm_mk89 : pm_mk 89 = true := by decide +kernel
theorem pm_mk90 : pm_mk 90 = true := by decide +kernel
theorem pm_mk91 : pm_mk 91 = true := by decide +kernel
theorem pm_mk92 : pm_mk 92 = true := by decide +kernel
theorem pm_mk93 : pm_mk 93 = true := by decide +kernel
theorem pm_mk94 : pm_mk 94 = true := by decide +kernel
theorem pm_mk95 : pm_mk 95 = true := by decide +kernel
theorem pm_mk96 : pm_mk 96 = true := by decide +kernel
theorem pm_mk97 : pm_mk 97 = true := by decide +kernel
theorem pm_mk98 : pm_mk 98 = true := by decide +kernel
theorem pm_mk99 : pm_mk 99 = true := by decide +kernel
theorem pm_mk100 : pm_mk 100 = true := by decide +kernel
theorem pm_mk101 : pm_mk 101 = true := by decide +kernel
theorem pm_mk102 : pm_mk 102 = true := by decide +kernel
theorem pm_mk103 : pm_mk 103 = true := by decide +kernel
theorem pm_mk104 : pm_mk 104 = true := by decide +kernel
theorem pm_mk105 : pm_mk 105 = true := by decide +kernel
theorem pm_mk106 : pm_mk 106 = true := by decide +kernel
theorem pm_mk107 : pm_mk 107 = true := by decide +kernel
theorem pm_mk108 : pm_mk 108 = true := by decide +kernel
theorem pm_mk109 : pm_mk 109 = true := by decide +kernel
theorem pm_mk110 : pm_mk 110 = true := by decide +kernel
theorem pm_mk111 : pm_mk 111 = true := by decide +kernel
theorem pm_mk112 : pm_mk 112 = true := by decide +kernel
theorem pm_mk113 : pm_mk 113 = true := by decide +kernel
theorem pm_mk114 : pm_mk 114 = true := by decide +kernel
theorem pm_mk115 : pm_mk 115 = true := by decide +kernel
theorem pm_mk116 : pm_mk 116 = true := by decide +kernel
theorem pm_mk117 : pm_mk 117 = true := by decide +kernel
theorem pm_mk118 : pm_mk 118 = true := by decide +kernel
theorem pm_mk119 : pm_mk 119 = true := by decide +kernel
theorem pm_mk120 : pm_mk 120 = true := by decide +kernel
theorem pm_mk121 : pm_mk 121 = true := by decide +kernel
theorem pm_mk122 : pm_mk 122 = true := by decide +kernel
theorem pm_mk123 : pm_mk 123 = true := by decide +kernel
theorem pm_mk124 : pm_mk 124 = true := by decide +kernel
theorem pm_mk125 : pm_mk 125 = true := by decide +kernel
theorem pm_mk126 : pm_mk 126 = true := by decide +kernel
theorem pm_mk127 : pm_mk 127 = true := by decide +kernel
theorem pm_mk128 : pm_mk 128 = true := by decide +kernel
theorem pm_mk129 : pm_mk 129 = true := by decide +kernel
theorem pm_mk130 : pm_mk 130 = true := by decide +kernel
theorem pm_mk131 : pm_mk 131 = true := by decide +kernel
theorem pm_mk132 : pm_mk 132 = true := by decide +kernel
theorem pm_mk133 : pm_mk 133 = true := by decide +kernel
theorem pm_mk134 : pm_mk 134 = true := by decide +kernel
theorem pm_mk135 : pm_mk 135 = true := by decide +kernel
theorem pm_mk136 : pm_mk 136 = true := by decide +kernel
theorem pm_mk137 : pm_mk 137 = true := by decide +kernel
theorem pm_mk138 : pm_mk 138 = true := by decide +kernel
theorem pm_mk139 : pm_mk 139 = true := by decide +kernel
theorem pm_mk140 : pm_mk 140 = true := by decide +kernel
theorem pm_mk141 : pm_mk 141 = true := by decide +kernel
theorem pm_mk142 : pm_mk 142 = true := by decide +kernel
theorem pm_mk143 : pm_mk 143 = true := by decide +kernel
theorem pm_mk144 : pm_mk 144 = true := by decide +kernel
theorem pm_mk145 : pm_mk 145 = true := by decide +kernel
theorem pm_mk146 : pm_mk 146 = true := by decide +kernel
theorem pm_mk147 : pm_mk 147 = true := by decide +kernel
theorem pm_mk148 : pm_mk 148 = true := by decide +kernel
theorem pm_mk149 : pm_mk 149 = true := by decide +kernel
theorem pm_mk150 : pm_mk 150 = true := by decide +kernel
theorem pm_mk151 : pm_mk 151 = true := by decide +kernel
theorem pm_mk152 : pm_mk 152 = true := by decide +kernel
theorem pm_mk153 : pm_mk 153 = true := by decide +kernel
theorem pm_mk154 : pm_mk 154 = true := by decide +kernel
theorem pm_mk155 : pm_mk 155 = true := by decide +kernel
theorem pm_mk156 : pm_mk 156 = true := by decide +kernel
theorem pm_mk157 : pm_mk 157 = true := by decide +kernel
theorem pm_mk158 : pm_mk 158 = true := by decide +kernel
theorem pm_mk159 : pm_mk 159 = true := by decide +kernel
theorem pm_mk160 : pm_mk 160 = true := by decide +kernel
theorem pm_mk161 : pm_mk 161 = true := by decide +kernel
theorem pm_mk162 : pm_mk 162 = true := by decide +kernel
theorem pm_mk163 : pm_mk 163 = true := by decide +kernel
theorem pm_mk164 : pm_mk 164 = true := by decide +kernel
theorem pm_mk165 : pm_mk 165 = true := by decide +kernel
theorem pm_mk166 : pm_mk 166 = true := by decide +kernel
theorem pm_mk167 : pm_mk 167 = true := by decide +kernel
theorem pm_mk168 : pm_mk 168 = true := by decide +kernel
theorem pm_mk169 : pm_mk 169 = true := by decide +kernel
theorem pm_mk170 : pm_mk 170 = true := by decide +kernel
theorem pm_mk171 : pm_mk 171 = true := by decide +kernel
theorem pm_mk172 : pm_mk 172 = true := by decide +kernel
theorem pm_mk173 : pm_mk 173 = true := by decide +kernel
theorem pm_mk174 : pm_mk 174 = true := by decide +kernel
theorem pm_mk175 : pm_mk 175 = true := by decide +kernel
theorem pm_mk176 : pm_mk 176 = true := by decide +kernel
theorem pm_mk177 : pm_mk 177 = true := by decide +kernel
theorem pm_mk178 : pm_mk 178 = true := by decide +kernel
theorem pm_mk179 : pm_mk 179 = true := by decide +kernel
theorem pm_mk180 : pm_mk 180 = true := by decide +kernel
theorem pm_mk181 : pm_mk 181 = true := by decide +kernel
theorem pm_mk182 : pm_mk 182 = true := by decide +kernel
theorem pm_mk183 : pm_mk 183 = true := by decide +kernel
theorem pm_mk184 : pm_mk 184 = true := by decide +kernel
theorem pm_mk185 : pm_mk 185 = true := by decide +kernel
theorem pm_mk186 : pm_mk 186 = true := by decide +kernel
theorem pm_mk187 : pm_mk 187 = true := by decide +kernel
theorem pm_mk188 : pm_mk 188 = true := by decide +kernel
theorem pm_mk189 : pm_mk 189 = true := by decide +kernel
theorem pm_mk190 : pm_mk 190 = true := by decide +kernel
theorem pm_mk191 : pm_mk 191 = true := by decide +kernel
theorem pm_mk192 : pm_mk 192 = true := by decide +kernel
theorem pm_mk193 : pm_mk 193 = true := by decide +kernel
theorem pm_mk194 : pm_mk 194 = true := by decide +kernel
theorem pm_mk195 : pm_mk 195 = true := by decide +kernel
theorem pm_mk196 : pm_mk 196 = true := by decide +kernel
theorem pm_mk197 : pm_mk 197 = true := by decide +kernel
theorem pm_mk198 : pm_mk 198 = true := by decide +kernel
theorem pm_mk199 : pm_mk 199 = true := by decide +kernel
theorem pm_mk200 : pm_mk 200 = true := by decide +kernel
theorem pm_mk201 : pm_mk 201 = true := by decide +kernel
theorem pm_mk202 : pm_mk 202 = true := by decide +kernel
theorem pm_mk203 : pm_mk 203 = true := by decide +kernel
theorem pm_mk204 : pm_mk 204 = true := by decide +kernel
theorem pm_mk205 : pm_mk 205 = true := by decide +kernel
theorem pm_mk206 : pm_mk 206 = true := by decide +kernel
theorem pm_mk207 : pm_mk 207 = true := by decide +kernel
theorem pm_mk208 : pm_mk 208 = true := by decide +kernel
theorem pm_mk209 : pm_mk 209 = true := by decide +kernel
theorem pm_mk210 : pm_mk 210 = true := by decide +kernel
theorem pm_mk211 : pm_mk 211 = true := by decide +kernel
theorem pm_mk212 : pm_mk 212 = true := by decide +kernel
theorem pm_mk213 : pm_mk 213 = true := by decide +kernel
theorem pm_mk214 : pm_mk 214 = true := by decide +kernel
theorem pm_mk215 : pm_mk 215 = true := by decide +kernel
theorem pm_mk216 : pm_mk 216 = true := by decide +kernel
theorem pm_mk217 : pm_mk 217 = true := by decide +kernel
theorem pm_mk218 : pm_mk 218 = true := by decide +kernel
theorem pm_mk219 : pm_mk 219 = true := by decide +kernel
theorem pm_mk220 : pm_mk 220 = true := by decide +kernel
theorem pm_mk221 : pm_mk 221 = true := by decide +kernel
theorem pm_mk222 : pm_mk 222 = true := by decide +kernel
theorem pm_mk223 : pm_mk 223 = true := by decide +kernel
theorem pm_mk224 : pm_mk 224 = true := by decide +kernel
theorem pm_mk225 : pm_mk 225 = true := by decide +kernel
theorem pm_mk226 : pm_mk 226 = true := by decide +kernel
theorem pm_mk227 : pm_mk 227 = true := by decide +kernel
theorem pm_mk228 : pm_mk 228 = true := by decide +kernel
theorem pm_mk229 : pm_mk 229 = true := by decide +kernel
theorem pm_mk230 : pm_mk 230 = true := by decide +kernel
theorem pm_mk231 : pm_mk 231 = true := by decide +kernel
theorem pm_mk232 : pm_mk 232 = true := by decide +kernel
theorem pm_mk233 : pm_mk 233 = true := by decide +kernel
theorem pm_mk234 : pm_mk 234 = true := by decide +kernel
theorem pm_mk235 : pm_mk 235 = true := by decide +kernel
theorem pm_mk236 : pm_mk 236 = true := by decide +kernel
theorem pm_mk237 : pm_mk 237 = true := by decide +kernel
theorem pm_mk238 : pm_mk 238 = true := by decide +kernel
theorem pm_mk239 : pm_mk 239 = true := by decide +kernel
theorem pm_mk240 : pm_mk 240 = true := by decide +kernel
theorem pm_mk241 : pm_mk 241 = true := by decide +kernel
theorem pm_mk242 : pm_mk 242 = true := by decide +kernel
theorem pm_mk243 : pm_mk 243 = true := by decide +kernel
theorem pm_mk244 : pm_mk 244 = true := by decide +kernel
theorem pm_mk245 : pm_mk 245 = true := by decide +kernel
theorem pm_mk246 : pm_mk 246 = true := by decide +kernel
theorem pm_mk247 : pm_mk 247 = true := by decide +kernel
theorem pm_mk248 : pm_mk 248 = true := by decide +kernel
theorem pm_mk249 : pm_mk 249 = true := by decide +kernel
theorem pm_mk250 : pm_mk 250 = true := by decide +kernel
theorem pm_mk251 : pm_mk 251 = true := by decide +kernel
theorem pm_mk252 : pm_mk 252 = true := by decide +kernel
theorem pm_mk253 : pm_mk 253 = true := by decide +kernel
theorem pm_mk254 : pm_mk 254 = true := by decide +kernel
theorem pm_mk255 : pm_mk 255 = true := by decide +kernel
theorem pm_mk256 : pm_mk 256 = true := by decide +kernel
theorem pm_mk257 : pm_mk 257 = true := by decide +kernel
theorem pm_mk258 : pm_mk 258 = true := by decide +kernel
theorem pm_mk259 : pm_mk 259 = true := by decide +kernel
theorem pm_mk260 : pm_mk 260 = true := by decide +kernel
theorem pm_mk261 : pm_mk 261 = true := by decide +kernel
theorem pm_mk262 : pm_mk 262 = true := by decide +kernel
theorem pm_mk263 : pm_mk 263 = true := by decide +kernel
theorem pm_mok : ∀ k, k < 264 → pm_mk k = true := by
  intro k hk
  by_cases h0_264 : k < 132
  · skip
    by_cases h0_132 : k < 66
    · skip
      by_cases h0_66 : k < 33
      · skip
        by_cases h0_33 : k < 16
        · skip
          by_cases h0_16 : k < 8
          · skip
            by_cases h0_8 : k < 4
            · skip
              by_cases h0_4 : k < 2
              · skip
                by_cases h0_2 : k < 1
                · skip
                  obtain rfl : k = 0 := by omega
                  exact pm_mk0
                · skip
                  obtain rfl : k = 1 := by omega
                  exact pm_mk1
              · skip
                by_cases h2_4 : k < 3
                · skip
                  obtain rfl : k = 2 := by omega
                  exact pm_mk2
                · skip
                  obtain rfl : k = 3 := by omega
                  exact pm_mk3
            · skip
              by_cases h4_8 : k < 6
              · skip
                by_cases h4_6 : k < 5
                · skip
                  obtain rfl : k = 4 := by omega
                  exact pm_mk4
                · skip
                  obtain rfl : k = 5 := by omega
                  exact pm_mk5
              · skip
                by_cases h6_8 : k < 7
                · skip
                  obtain rfl : k = 6 := by omega
                  exact pm_mk6
                · skip
                  obtain rfl : k = 7 := by omega
                  exact pm_mk7
          · skip
            by_cases h8_16 : k < 12
            · skip
              by_cases h8_12 : k < 10
              · skip
                by_cases h8_10 : k < 9
                · skip
                  obtain rfl : k = 8 := by omega
                  exact pm_mk8
                · skip
                  obtain rfl : k = 9 := by omega
                  exact pm_mk9
              · skip
                by_cases h10_12 : k < 11
                · skip
                  obtain rfl : k = 10 := by omega
                  exact pm_mk10
                · skip
                  obtain rfl : k = 11 := by omega
                  exact pm_mk11
            · skip
              by_cases h12_16 : k < 14
              · skip
                by_cases h12_14 : k < 13
                · skip
                  obtain rfl : k = 12 := by omega
                  exact pm_mk12
                · skip
                  obtain rfl : k = 13 := by omega
                  exact pm_mk13
              · skip
                by_cases h14_16 : k < 15
                · skip
                  obtain rfl : k = 14 := by omega
                  exact pm_mk14
                · skip
                  obtain rfl : k = 15 := by omega
                  exact pm_mk15
        · skip
          by_cases h16_33 : k < 24
          · skip
            by_cases h16_24 : k < 20
            · skip
              by_cases h16_20 : k < 18
              · skip
                by_cases h16_18 : k < 17
                · skip
                  obtain rfl : k = 16 := by omega
                  exact pm_mk16
                · skip
                  obtain rfl : k = 17 := by omega
                  exact pm_mk17
              · skip
                by_cases h18_20 : k < 19
                · skip
                  obtain rfl : k = 18 := by omega
                  exact pm_mk18
                · skip
                  obtain rfl : k = 19 := by omega
                  exact pm_mk19
            · skip
              by_cases h20_24 : k < 22
              · skip
                by_cases h20_22 : k < 21
                · skip
                  obtain rfl : k = 20 := by omega
                  exact pm_mk20
                · skip
                  obtain rfl : k = 21 := by omega
                  exact pm_mk21
              · skip
                by_cases h22_24 : k < 23
                · skip
                  obtain rfl : k = 22 := by omega
                  exact pm_mk22
                · skip
                  obtain rfl : k = 23 := by omega
                  exact pm_mk23
          · skip
            by_cases h24_33 : k < 28
            · skip
              by_cases h24_28 : k < 26
              · skip
                by_cases h24_26 : k < 25
                · skip
                  obtain rfl : k = 24 := by omega
                  exact pm_mk24
                · skip
                  obtain rfl : k = 25 := by omega
                  exact pm_mk25
              · skip
                by_cases h26_28 : k < 27
                · skip
                  obtain rfl : k = 26 := by omega
                  exact pm_mk26
                · skip
                  obtain rfl : k = 27 := by omega
                  exact pm_mk27
            · skip
              by_cases h28_33 : k < 30
              · skip
                by_cases h28_30 : k < 29
                · skip
                  obtain rfl : k = 28 := by omega
                  exact pm_mk28
                · skip
                  obtain rfl : k = 29 := by omega
                  exact pm_mk29
              · skip
                by_cases h30_33 : k < 31
                · skip
                  obtain rfl : k = 30 := by omega
                  exact pm_mk30
                · skip
                  by_cases h31_33 : k < 32
                  · skip
                    obtain rfl : k = 31 := by omega
                    exact pm_mk31
                  · skip
                    obtain rfl : k = 32 := by omega
                    exact pm_mk32
      · skip
        by_cases h33_66 : k < 49
        · skip
          by_cases h33_49 : k < 41
          · skip
            by_cases h33_41 : k < 37
            · skip
              by_cases h33_37 : k < 35
              · skip
                by_cases h33_35 : k < 34
                · skip
                  obtain rfl : k = 33 := by omega
                  exact pm_mk33
                · skip
                  obtain rfl : k = 34 := by omega
                  exact pm_mk34
              · skip
                by_cases h35_37 : k < 36
                · skip
                  obtain rfl : k = 35 := by omega
                  exact pm_mk35
                · skip
                  obtain rfl : k = 36 := by omega
                  exact pm_mk36
            · skip
              by_cases h37_41 : k < 39
              · skip
                by_cases h37_39 : k < 38
                · skip
                  obtain rfl : k = 37 := by omega
                  exact pm_mk37
                · skip
                  obtain rfl : k = 38 := by omega
                  exact pm_mk38
              · skip
                by_cases h39_41 : k < 40
                · skip
                  obtain rfl : k = 39 := by omega
                  exact pm_mk39
                · skip
                  obtain rfl : k = 40 := by omega
                  exact pm_mk40
          · skip
            by_cases h41_49 : k < 45
            · skip
              by_cases h41_45 : k < 43
              · skip
                by_cases h41_43 : k < 42
                · skip
                  obtain rfl : k = 41 := by omega
                  exact pm_mk41
                · skip
                  obtain rfl : k = 42 := by omega
                  exact pm_mk42
              · skip
                by_cases h43_45 : k < 44
                · skip
                  obtain rfl : k = 43 := by omega
                  exact pm_mk43
                · skip
                  obtain rfl : k = 44 := by omega
                  exact pm_mk44
            · skip
              by_cases h45_49 : k < 47
              · skip
                by_cases h45_47 : k < 46
                · skip
                  obtain rfl : k = 45 := by omega
                  exact pm_mk45
                · skip
                  obtain rfl : k = 46 := by omega
                  exact pm_mk46
              · skip
                by_cases h47_49 : k < 48
                · skip
                  obtain rfl : k = 47 := by omega
                  exact pm_mk47
                · skip
                  obtain rfl : k = 48 := by omega
                  exact pm_mk48
        · skip
          by_cases h49_66 : k < 57
          · skip
            by_cases h49_57 : k < 53
            · skip
              by_cases h49_53 : k < 51
              · skip
                by_cases h49_51 : k < 50
                · skip
                  obtain rfl : k = 49 := by omega
                  exact pm_mk49
                · skip
                  obtain rfl : k = 50 := by omega
                  exact pm_mk50
              · skip
                by_cases h51_53 : k < 52
                · skip
                  obtain rfl : k = 51 := by omega
                  exact pm_mk51
                · skip
                  obtain rfl : k = 52 := by omega
                  exact pm_mk52
            · skip
              by_cases h53_57 : k < 55
              · skip
                by_cases h53_55 : k < 54
                · skip
                  obtain rfl : k = 53 := by omega
                  exact pm_mk53
                · skip
                  obtain rfl : k = 54 := by omega
                  exact pm_mk54
              · skip
                by_cases h55_57 : k < 56
                · skip
                  obtain rfl : k = 55 := by omega
                  exact pm_mk55
                · skip
                  obtain rfl : k = 56 := by omega
                  exact pm_mk56
          · skip
            by_cases h57_66 : k < 61
            · skip
              by_cases h57_61 : k < 59
              · skip
                by_cases h57_59 : k < 58
                · skip
                  obtain rfl : k = 57 := by omega
                  exact pm_mk57
                · skip
                  obtain rfl : k = 58 := by omega
                  exact pm_mk58
              · skip
                by_cases h59_61 : k < 60
                · skip
                  obtain rfl : k = 59 := by omega
                  exact pm_mk59
                · skip
                  obtain rfl : k = 60 := by omega
                  exact pm_mk60
            · skip
              by_cases h61_66 : k < 63
              · skip
                by_cases h61_63 : k < 62
                · skip
                  obtain rfl : k = 61 := by omega
                  exact pm_mk61
                · skip
                  obtain rfl : k = 62 := by omega
                  exact pm_mk62
              · skip
                by_cases h63_66 : k < 64
                · skip
                  obtain rfl : k = 63 := by omega
                  exact pm_mk63
                · skip
                  by_cases h64_66 : k < 65
                  · skip
                    obtain rfl : k = 64 := by omega
                    exact pm_mk64
                  · skip
                    obtain rfl : k = 65 := by omega
                    exact pm_mk65
    · skip
      by_cases h66_132 : k < 99
      · skip
        by_cases h66_99 : k < 82
        · skip
          by_cases h66_82 : k < 74
          · skip
            by_cases h66_74 : k < 70
            · skip
              by_cases h66_70 : k < 68
              · skip
                by_cases h66_68 : k < 67
                · skip
                  obtain rfl : k = 66 := by omega
                  exact pm_mk66
                · skip
                  obtain rfl : k = 67 := by omega
                  exact pm_mk67
              · skip
                by_cases h68_70 : k < 69
                · skip
                  obtain rfl : k = 68 := by omega
                  exact pm_mk68
                · skip
                  obtain rfl : k = 69 := by omega
                  exact pm_mk69
            · skip
              by_cases h70_74 : k < 72
              · skip
                by_cases h70_72 : k < 71
                · skip
                  obtain rfl : k = 70 := by omega
                  exact pm_mk70
                · skip
                  obtain rfl : k = 71 := by omega
                  exact pm_mk71
              · skip
                by_cases h72_74 : k < 73
                · skip
                  obtain rfl : k = 72 := by omega
                  exact pm_mk72
                · skip
                  obtain rfl : k = 73 := by omega
                  exact pm_mk73
          · skip
            by_cases h74_82 : k < 78
            · skip
              by_cases h74_78 : k < 76
              · skip
                by_cases h74_76 : k < 75
                · skip
                  obtain rfl : k = 74 := by omega
                  exact pm_mk74
                · skip
                  obtain rfl : k = 75 := by omega
                  exact pm_mk75
              · skip
                by_cases h76_78 : k < 77
                · skip
                  obtain rfl : k = 76 := by omega
                  exact pm_mk76
                · skip
                  obtain rfl : k = 77 := by omega
                  exact pm_mk77
            · skip
              by_cases h78_82 : k < 80
              · skip
                by_cases h78_80 : k < 79
                · skip
                  obtain rfl : k = 78 := by omega
                  exact pm_mk78
                · skip
                  obtain rfl : k = 79 := by omega
                  exact pm_mk79
              · skip
                by_cases h80_82 : k < 81
                · skip
                  obtain rfl : k = 80 := by omega
                  exact pm_mk80
                · skip
                  obtain rfl : k = 81 := by omega
                  exact pm_mk81
        · skip
          by_cases h82_99 : k < 90
          · skip
            by_cases h82_90 : k < 86
            · skip
              by_cases h82_86 : k < 84
              · skip
                by_cases h82_84 : k < 83
                · skip
                  obtain rfl : k = 82 := by omega
                  exact pm_mk82
                · skip
                  obtain rfl : k = 83 := by omega
                  exact pm_mk83
              · skip
                by_cases h84_86 : k < 85
                · skip
                  obtain rfl : k = 84 := by omega
                  exact pm_mk84
                · skip
                  obtain rfl : k = 85 := by omega
                  exact pm_mk85
            · skip
              by_cases h86_90 : k < 88
              · skip
                by_cases h86_88 : k < 87
                · skip
                  obtain rfl : k = 86 := by omega
                  exact pm_mk86
                · skip
                  obtain rfl : k = 87 := by omega
                  exact pm_mk87
              · skip
                by_cases h88_90 : k < 89
                · skip
                  obtain rfl : k = 88 := by omega
                  exact pm_mk88
                · skip
                  obtain rfl : k = 89 := by omega
                  exact pm_mk89
          · skip
            by_cases h90_99 : k < 94
            · skip
              by_cases h90_94 : k < 92
              · skip
                by_cases h90_92 : k < 91
                · skip
                  obtain rfl : k = 90 := by omega
                  exact pm_mk90
                · skip
                  obtain rfl : k = 91 := by omega
                  exact pm_mk91
              · skip
                by_cases h92_94 : k < 93
                · skip
                  obtain rfl : k = 92 := by omega
                  exact pm_mk92
                · skip
                  obtain rfl : k = 93 := by omega
                  exact pm_mk93
            · skip
              by_cases h94_99 : k < 96
              · skip
                by_cases h94_96 : k < 95
                · skip
                  obtain rfl : k = 94 := by omega
                  exact pm_mk94
                · skip
                  obtain rfl : k = 95 := by omega
                  exact pm_mk95
              · skip
                by_cases h96_99 : k < 97
                · skip
                  obtain rfl : k = 96 := by omega
                  exact pm_mk96
                · skip
                  by_cases h97_99 : k < 98
                  · skip
                    obtain rfl : k = 97 := by omega
                    exact pm_mk97
                  · skip
                    obtain rfl : k = 98 := by omega
                    exact pm_mk98
      · skip
        by_cases h99_132 : k < 115
        · skip
          by_cases h99_115 : k < 107
          · skip
            by_cases h99_107 : k < 103
            · skip
              by_cases h99_103 : k < 101
              · skip
                by_cases h99_101 : k < 100
                · skip
                  obtain rfl : k = 99 := by omega
                  exact pm_mk99
                · skip
                  obtain rfl : k = 100 := by omega
                  exact pm_mk100
              · skip
                by_cases h101_103 : k < 102
                · skip
                  obtain rfl : k = 101 := by omega
                  exact pm_mk101
                · skip
                  obtain rfl : k = 102 := by omega
                  exact pm_mk102
            · skip
              by_cases h103_107 : k < 105
              · skip
                by_cases h103_105 : k < 104
                · skip
                  obtain rfl : k = 103 := by omega
                  exact pm_mk103
                · skip
                  obtain rfl : k = 104 := by omega
                  exact pm_mk104
              · skip
                by_cases h105_107 : k < 106
                · skip
                  obtain rfl : k = 105 := by omega
                  exact pm_mk105
                · skip
                  obtain rfl : k = 106 := by omega
                  exact pm_mk106
          · skip
            by_cases h107_115 : k < 111
            · skip
              by_cases h107_111 : k < 109
              · skip
                by_cases h107_109 : k < 108
                · skip
                  obtain rfl : k = 107 := by omega
                  exact pm_mk107
                · skip
                  obtain rfl : k = 108 := by omega
                  exact pm_mk108
              · skip
                by_cases h109_111 : k < 110
                · skip
                  obtain rfl : k = 109 := by omega
                  exact pm_mk109
                · skip
                  obtain rfl : k = 110 := by omega
                  exact pm_mk110
            · skip
              by_cases h111_115 : k < 113
              · skip
                by_cases h111_113 : k < 112
                · skip
                  obtain rfl : k = 111 := by omega
                  exact pm_mk111
                · skip
                  obtain rfl : k = 112 := by omega
                  exact pm_mk112
              · skip
                by_cases h113_115 : k < 114
                · skip
                  obtain rfl : k = 113 := by omega
                  exact pm_mk113
                · skip
                  obtain rfl : k = 114 := by omega
                  exact pm_mk114
        · skip
          by_cases h115_132 : k < 123
          · skip
            by_cases h115_123 : k < 119
            · skip
              by_cases h115_119 : k < 117
              · skip
                by_cases h115_117 : k < 116
                · skip
                  obtain rfl : k = 115 := by omega
                  exact pm_mk115
                · skip
                  obtain rfl : k = 116 := by omega
                  exact pm_mk116
              · skip
                by_cases h117_119 : k < 118
                · skip
                  obtain rfl : k = 117 := by omega
                  exact pm_mk117
                · skip
                  obtain rfl : k = 118 := by omega
                  exact pm_mk118
            · skip
              by_cases h119_123 : k < 121
              · skip
                by_cases h119_121 : k < 120
                · skip
                  obtain rfl : k = 119 := by omega
                  exact pm_mk119
                · skip
                  obtain rfl : k = 120 := by omega
                  exact pm_mk120
              · skip
                by_cases h121_123 : k < 122
                · skip
                  obtain rfl : k = 121 := by omega
                  exact pm_mk121
                · skip
                  obtain rfl : k = 122 := by omega
                  exact pm_mk122
          · skip
            by_cases h123_132 : k < 127
            · skip
              by_cases h123_127 : k < 125
              · skip
                by_cases h123_125 : k < 124
                · skip
                  obtain rfl : k = 123 := by omega
                  exact pm_mk123
                · skip
                  obtain rfl : k = 124 := by omega
                  exact pm_mk124
              · skip
                by_cases h125_127 : k < 126
                · skip
                  obtain rfl : k = 125 := by omega
                  exact pm_mk125
                · skip
                  obtain rfl : k = 126 := by omega
                  exact pm_mk126
            · skip
              by_cases h127_132 : k < 129
              · skip
                by_cases h127_129 : k < 128
                · skip
                  obtain rfl : k = 127 := by omega
                  exact pm_mk127
                · skip
                  obtain rfl : k = 128 := by omega
                  exact pm_mk128
              · skip
                by_cases h129_132 : k < 130
                · skip
                  obtain rfl : k = 129 := by omega
                  exact pm_mk129
                · skip
                  by_cases h130_132 : k < 131
                  · skip
                    obtain rfl : k = 130 := by omega
                    exact pm_mk130
                  · skip
                    obtain rfl : k = 131 := by omega
                    exact pm_mk131
  · skip
    by_cases h132_264 : k < 198
    · skip
      by_cases h132_198 : k < 165
      · skip
        by_cases h132_165 : k < 148
        · skip
          by_cases h132_148 : k < 140
          · skip
            by_cases h132_140 : k < 136
            · skip
              by_cases h132_136 : k < 134
              · skip
                by_cases h132_134 : k < 133
                · skip
                  obtain rfl : k = 132 := by omega
                  exact pm_mk132
                · skip
                  obtain rfl : k = 133 := by omega
                  exact pm_mk133
              · skip
                by_cases h134_136 : k < 135
                · skip
                  obtain rfl : k = 134 := by omega
                  exact pm_mk134
                · skip
                  obtain rfl : k = 135 := by omega
                  exact pm_mk135
            · skip
              by_cases h136_140 : k < 138
              · skip
                by_cases h136_138 : k < 137
                · skip
                  obtain rfl : k = 136 := by omega
                  exact pm_mk136
                · skip
                  obtain rfl : k = 137 := by omega
                  exact pm_mk137
              · skip
                by_cases h138_140 : k < 139
                · skip
                  obtain rfl : k = 138 := by omega
                  exact pm_mk138
                · skip
                  obtain rfl : k = 139 := by omega
                  exact pm_mk139
          · skip
            by_cases h140_148 : k < 144
            · skip
              by_cases h140_144 : k < 142
              · skip
                by_cases h140_142 : k < 141
                · skip
                  obtain rfl : k = 140 := by omega
                  exact pm_mk140
                · skip
                  obtain rfl : k = 141 := by omega
                  exact pm_mk141
              · skip
                by_cases h142_144 : k < 143
                · skip
                  obtain rfl : k = 142 := by omega
                  exact pm_mk142
                · skip
                  obtain rfl : k = 143 := by omega
                  exact pm_mk143
            · skip
              by_cases h144_148 : k < 146
              · skip
                by_cases h144_146 : k < 145
                · skip
                  obtain rfl : k = 144 := by omega
                  exact pm_mk144
                · skip
                  obtain rfl : k = 145 := by omega
                  exact pm_mk145
              · skip
                by_cases h146_148 : k < 147
                · skip
                  obtain rfl : k = 146 := by omega
                  exact pm_mk146
                · skip
                  obtain rfl : k = 147 := by omega
                  exact pm_mk147
        · skip
          by_cases h148_165 : k < 156
          · skip
            by_cases h148_156 : k < 152
            · skip
              by_cases h148_152 : k < 150
              · skip
                by_cases h148_150 : k < 149
                · skip
                  obtain rfl : k = 148 := by omega
                  exact pm_mk148
                · skip
                  obtain rfl : k = 149 := by omega
                  exact pm_mk149
              · skip
                by_cases h150_152 : k < 151
                · skip
                  obtain rfl : k = 150 := by omega
                  exact pm_mk150
                · skip
                  obtain rfl : k = 151 := by omega
                  exact pm_mk151
            · skip
              by_cases h152_156 : k < 154
              · skip
                by_cases h152_154 : k < 153
                · skip
                  obtain rfl : k = 152 := by omega
                  exact pm_mk152
                · skip
                  obtain rfl : k = 153 := by omega
                  exact pm_mk153
              · skip
                by_cases h154_156 : k < 155
                · skip
                  obtain rfl : k = 154 := by omega
                  exact pm_mk154
                · skip
                  obtain rfl : k = 155 := by omega
                  exact pm_mk155
          · skip
            by_cases h156_165 : k < 160
            · skip
              by_cases h156_160 : k < 158
              · skip
                by_cases h156_158 : k < 157
                · skip
                  obtain rfl : k = 156 := by omega
                  exact pm_mk156
                · skip
                  obtain rfl : k = 157 := by omega
                  exact pm_mk157
              · skip
                by_cases h158_160 : k < 159
                · skip
                  obtain rfl : k = 158 := by omega
                  exact pm_mk158
                · skip
                  obtain rfl : k = 159 := by omega
                  exact pm_mk159
            · skip
              by_cases h160_165 : k < 162
              · skip
                by_cases h160_162 : k < 161
                · skip
                  obtain rfl : k = 160 := by omega
                  exact pm_mk160
                · skip
                  obtain rfl : k = 161 := by omega
                  exact pm_mk161
              · skip
                by_cases h162_165 : k < 163
                · skip
                  obtain rfl : k = 162 := by omega
                  exact pm_mk162
                · skip
                  by_cases h163_165 : k < 164
                  · skip
                    obtain rfl : k = 163 := by omega
                    exact pm_mk163
                  · skip
                    obtain rfl : k = 164 := by omega
                    exact pm_mk164
      · skip
        by_cases h165_198 : k < 181
        · skip
          by_cases h165_181 : k < 173
          · skip
            by_cases h165_173 : k < 169
            · skip
              by_cases h165_169 : k < 167
              · skip
                by_cases h165_167 : k < 166
                · skip
                  obtain rfl : k = 165 := by omega
                  exact pm_mk165
                · skip
                  obtain rfl : k = 166 := by omega
                  exact pm_mk166
              · skip
                by_cases h167_169 : k < 168
                · skip
                  obtain rfl : k = 167 := by omega
                  exact pm_mk167
                · skip
                  obtain rfl : k = 168 := by omega
                  exact pm_mk168
            · skip
              by_cases h169_173 : k < 171
              · skip
                by_cases h169_171 : k < 170
                · skip
                  obtain rfl : k = 169 := by omega
                  exact pm_mk169
                · skip
                  obtain rfl : k = 170 := by omega
                  exact pm_mk170
              · skip
                by_cases h171_173 : k < 172
                · skip
                  obtain rfl : k = 171 := by omega
                  exact pm_mk171
                · skip
                  obtain rfl : k = 172 := by omega
                  exact pm_mk172
          · skip
            by_cases h173_181 : k < 177
            · skip
              by_cases h173_177 : k < 175
              · skip
                by_cases h173_175 : k < 174
                · skip
                  obtain rfl : k = 173 := by omega
                  exact pm_mk173
                · skip
                  obtain rfl : k = 174 := by omega
                  exact pm_mk174
              · skip
                by_cases h175_177 : k < 176
                · skip
                  obtain rfl : k = 175 := by omega
                  exact pm_mk175
                · skip
                  obtain rfl : k = 176 := by omega
                  exact pm_mk176
            · skip
              by_cases h177_181 : k < 179
              · skip
                by_cases h177_179 : k < 178
                · skip
                  obtain rfl : k = 177 := by omega
                  exact pm_mk177
                · skip
                  obtain rfl : k = 178 := by omega
                  exact pm_mk178
              · skip
                by_cases h179_181 : k < 180
                · skip
                  obtain rfl : k = 179 := by omega
                  exact pm_mk179
                · skip
                  obtain rfl : k = 180 := by omega
                  exact pm_mk180
        · skip
          by_cases h181_198 : k < 189
          · skip
            by_cases h181_189 : k < 185
            · skip
              by_cases h181_185 : k < 183
              · skip
                by_cases h181_183 : k < 182
                · skip
                  obtain rfl : k = 181 := by omega
                  exact pm_mk181
                · skip
                  obtain rfl : k = 182 := by omega
                  exact pm_mk182
              · skip
                by_cases h183_185 : k < 184
                · skip
                  obtain rfl : k = 183 := by omega
                  exact pm_mk183
                · skip
                  obtain rfl : k = 184 := by omega
                  exact pm_mk184
            · skip
              by_cases h185_189 : k < 187
              · skip
                by_cases h185_187 : k < 186
                · skip
                  obtain rfl : k = 185 := by omega
                  exact pm_mk185
                · skip
                  obtain rfl : k = 186 := by omega
                  exact pm_mk186
              · skip
                by_cases h187_189 : k < 188
                · skip
                  obtain rfl : k = 187 := by omega
                  exact pm_mk187
                · skip
                  obtain rfl : k = 188 := by omega
                  exact pm_mk188
          · skip
            by_cases h189_198 : k < 193
            · skip
              by_cases h189_193 : k < 191
              · skip
                by_cases h189_191 : k < 190
                · skip
                  obtain rfl : k = 189 := by omega
                  exact pm_mk189
                · skip
                  obtain rfl : k = 190 := by omega
                  exact pm_mk190
              · skip
                by_cases h191_193 : k < 192
                · skip
                  obtain rfl : k = 191 := by omega
                  exact pm_mk191
                · skip
                  obtain rfl : k = 192 := by omega
                  exact pm_mk192
            · skip
              by_cases h193_198 : k < 195
              · skip
                by_cases h193_195 : k < 194
                · skip
                  obtain rfl : k = 193 := by omega
                  exact pm_mk193
                · skip
                  obtain rfl : k = 194 := by omega
                  exact pm_mk194
              · skip
                by_cases h195_198 : k < 196
                · skip
                  obtain rfl : k = 195 := by omega
                  exact pm_mk195
                · skip
                  by_cases h196_198 : k < 197
                  · skip
                    obtain rfl : k = 196 := by omega
                    exact pm_mk196
                  · skip
                    obtain rfl : k = 197 := by omega
                    exact pm_mk197
    · skip
      by_cases h198_264 : k < 231
      · skip
        by_cases h198_231 : k < 214
        · skip
          by_cases h198_214 : k < 206
          · skip
            by_cases h198_206 : k < 202
            · skip
              by_cases h198_202 : k < 200
              · skip
                by_cases h198_200 : k < 199
                · skip
                  obtain rfl : k = 198 := by omega
                  exact pm_mk198
                · skip
                  obtain rfl : k = 199 := by omega
                  exact pm_mk199
              · skip
                by_cases h200_202 : k < 201
                · skip
                  obtain rfl : k = 200 := by omega
                  exact pm_mk200
                · skip
                  obtain rfl : k = 201 := by omega
                  exact pm_mk201
            · skip
              by_cases h202_206 : k < 204
              · skip
                by_cases h202_204 : k < 203
                · skip
                  obtain rfl : k = 202 := by omega
                  exact pm_mk202
                · skip
                  obtain rfl : k = 203 := by omega
                  exact pm_mk203
              · skip
                by_cases h204_206 : k < 205
                · skip
                  obtain rfl : k = 204 := by omega
                  exact pm_mk204
                · skip
                  obtain rfl : k = 205 := by omega
                  exact pm_mk205
          · skip
            by_cases h206_214 : k < 210
            · skip
              by_cases h206_210 : k < 208
              · skip
                by_cases h206_208 : k < 207
                · skip
                  obtain rfl : k = 206 := by omega
                  exact pm_mk206
                · skip
                  obtain rfl : k = 207 := by omega
                  exact pm_mk207
              · skip
                by_cases h208_210 : k < 209
                · skip
                  obtain rfl : k = 208 := by omega
                  exact pm_mk208
                · skip
                  obtain rfl : k = 209 := by omega
                  exact pm_mk209
            · skip
              by_cases h210_214 : k < 212
              · skip
                by_cases h210_212 : k < 211
                · skip
                  obtain rfl : k = 210 := by omega
                  exact pm_mk210
                · skip
                  obtain rfl : k = 211 := by omega
                  exact pm_mk211
              · skip
                by_cases h212_214 : k < 213
                · skip
                  obtain rfl : k = 212 := by omega
                  exact pm_mk212
                · skip
                  obtain rfl : k = 213 := by omega
                  exact pm_mk213
        · skip
          by_cases h214_231 : k < 222
          · skip
            by_cases h214_222 : k < 218
            · skip
              by_cases h214_218 : k < 216
              · skip
                by_cases h214_216 : k < 215
                · skip
                  obtain rfl : k = 214 := by omega
                  exact pm_mk214
                · skip
                  obtain rfl : k = 215 := by omega
                  exact pm_mk215
              · skip
                by_cases h216_218 : k < 217
                · skip
                  obtain rfl : k = 216 := by omega
                  exact pm_mk216
                · skip
                  obtain rfl : k = 217 := by omega
                  exact pm_mk217
            · skip
              by_cases h218_222 : k < 220
              · skip
                by_cases h218_220 : k < 219
                · skip
                  obtain rfl : k = 218 := by omega
                  exact pm_mk218
                · skip
                  obtain rfl : k = 219 := by omega
                  exact pm_mk219
              · skip
                by_cases h220_222 : k < 221
                · skip
                  obtain rfl : k = 220 := by omega
                  exact pm_mk220
                · skip
                  obtain rfl : k = 221 := by omega
                  exact pm_mk221
          · skip
            by_cases h222_231 : k < 226
            · skip
              by_cases h222_226 : k < 224
              · skip
                by_cases h222_224 : k < 223
                · skip
                  obtain rfl : k = 222 := by omega
                  exact pm_mk222
                · skip
                  obtain rfl : k = 223 := by omega
                  exact pm_mk223
              · skip
                by_cases h224_226 : k < 225
                · skip
                  obtain rfl : k = 224 := by omega
                  exact pm_mk224
                · skip
                  obtain rfl : k = 225 := by omega
                  exact pm_mk225
            · skip
              by_cases h226_231 : k < 228
              · skip
                by_cases h226_228 : k < 227
                · skip
                  obtain rfl : k = 226 := by omega
                  exact pm_mk226
                · skip
                  obtain rfl : k = 227 := by omega
                  exact pm_mk227
              · skip
                by_cases h228_231 : k < 229
                · skip
                  obtain rfl : k = 228 := by omega
                  exact pm_mk228
                · skip
                  by_cases h229_231 : k < 230
                  · skip
                    obtain rfl : k = 229 := by omega
                    exact pm_mk229
                  · skip
                    obtain rfl : k = 230 := by omega
                    exact pm_mk230
      · skip
        by_cases h231_264 : k < 247
        · skip
          by_cases h231_247 : k < 239
          · skip
            by_cases h231_239 : k < 235
            · skip
              by_cases h231_235 : k < 233
              · skip
                by_cases h231_233 : k < 232
                · skip
                  obtain rfl : k = 231 := by omega
                  exact pm_mk231
                · skip
                  obtain rfl : k = 232 := by omega
                  exact pm_mk232
              · skip
                by_cases h233_235 : k < 234
                · skip
                  obtain rfl : k = 233 := by omega
                  exact pm_mk233
                · skip
                  obtain rfl : k = 234 := by omega
                  exact pm_mk234
            · skip
              by_cases h235_239 : k < 237
              · skip
                by_cases h235_237 : k < 236
                · skip
                  obtain rfl : k = 235 := by omega
                  exact pm_mk235
                · skip
                  obtain rfl : k = 236 := by omega
                  exact pm_mk236
              · skip
                by_cases h237_239 : k < 238
                · skip
                  obtain rfl : k = 237 := by omega
                  exact pm_mk237
                · skip
                  obtain rfl : k = 238 := by omega
                  exact pm_mk238
          · skip
            by_cases h239_247 : k < 243
            · skip
              by_cases h239_243 : k < 241
              · skip
                by_cases h239_241 : k < 240
                · skip
                  obtain rfl : k = 239 := by omega
                  exact pm_mk239
                · skip
                  obtain rfl : k = 240 := by omega
                  exact pm_mk240
              · skip
                by_cases h241_243 : k < 242
                · skip
                  obtain rfl : k = 241 := by omega
                  exact pm_mk241
                · skip
                  obtain rfl : k = 242 := by omega
                  exact pm_mk242
            · skip
              by_cases h243_247 : k < 245
              · skip
                by_cases h243_245 : k < 244
                · skip
                  obtain rfl : k = 243 := by omega
                  exact pm_mk243
                · skip
                  obtain rfl : k = 244 := by omega
                  exact pm_mk244
              · skip
                by_cases h245_247 : k < 246
                · skip
                  obtain rfl : k = 245 := by omega
                  exact pm_mk245
                · skip
                  obtain rfl : k = 246 := by omega
                  exact pm_mk246
        · skip
          by_cases h247_264 : k < 255
          · skip
            by_cases h247_255 : k < 251
            · skip
              by_cases h247_251 : k < 249
              · skip
                by_cases h247_249 : k < 248
                · skip
                  obtain rfl : k = 247 := by omega
                  exact pm_mk247
                · skip
                  obtain rfl : k = 248 := by omega
                  exact pm_mk248
              · skip
                by_cases h249_251 : k < 250
                · skip
                  obtain rfl : k = 249 := by omega
                  exact pm_mk249
                · skip
                  obtain rfl : k = 250 := by omega
                  exact pm_mk250
            · skip
              by_cases h251_255 : k < 253
              · skip
                by_cases h251_253 : k < 252
                · skip
                  obtain rfl : k = 251 := by omega
                  exact pm_mk251
                · skip
                  obtain rfl : k = 252 := by omega
                  exact pm_mk252
              · skip
                by_cases h253_255 : k < 254
                · skip
                  obtain rfl : k = 253 := by omega
                  exact pm_mk253
                · skip
                  obtain rfl : k = 254 := by omega
                  exact pm_mk254
          · skip
            by_cases h255_264 : k < 259
            · skip
              by_cases h255_259 : k < 257
              · skip
                by_cases h255_257 : k < 256
                · skip
                  obtain rfl : k = 255 := by omega
                  exact pm_mk255
                · skip
                  obtain rfl : k = 256 := by omega
                  exact pm_mk256
              · skip
                by_cases h257_259 : k < 258
                · skip
                  obtain rfl : k = 257 := by omega
                  exact pm_mk257
                · skip
                  obtain rfl : k = 258 := by omega
                  exact pm_mk258
            · skip
              by_cases h259_264 : k < 261
              · skip
                by_cases h259_261 : k < 260
                · skip
                  obtain rfl : k = 259 := by omega
                  exact pm_mk259
                · skip
                  obtain rfl : k = 260 := by omega
                  exact pm_mk260
              · skip
                by_cases h261_264 : k < 262
                · skip
                  obtain rfl : k = 261 := by omega
                  exact pm_mk261
                · skip
                  by_cases h262_264 : k < 263
                  · skip
                    obtain rfl : k = 262 := by omega
                    exact pm_mk262
                  · skip
                    obtain rfl : k = 263 := by omega
                    exact pm_mk263
def pm_Lp : List (List Nat) := [[219, 221, 223, 225, 227, 229, 231, 233, 235, 237, 239, 241], [246], [362, 364, 366, 368], [340, 342, 344, 346], [321, 323, 325], [732], [258, 260, 262], [291, 293, 295, 297, 299, 301, 303, 305], [385, 387, 389, 391, 393, 395, 397], [155, 157, 159, 161], [414, 416, 418, 420], [437, 439, 441, 443, 445, 447, 449, 451, 453, 455, 457, 459, 461, 463], [1184, 1186, 1188, 1190, 1192, 1194, 1196, 1198, 1200, 1202, 1204, 1206, 1208, 1210, 1212, 1214, 1216, 1218, 1220, 1222, 1224, 1226, 1228, 1230, 1232, 1234, 1236, 1238, 1240, 1242, 1244, 1246, 1248, 1250, 1252, 1254, 1256, 1258, 1260, 1262, 1264, 1266, 1268, 1270, 1272, 1274]]
def pm_clk (ci : Nat) : Bool := pm_w1 (.instantiable (pm_R ci) (pm_cN ci)) (pm_Ip.getD ci 0) && (pm_w1 (.initialized (pm_R ci)) (pm_Cp.getD ci 0) && (decide ((pm_D.getD ci []).length = pm_cN ci) && ((List.range (pm_cN ci)).all (fun k => pm_w1 (u_lay (pm_R ci) (pm_fT ci) k) ((pm_Lp.getD ci []).getD k 0) && (decide (parseFieldDescriptor (pm_fT ci k).2.2.1 = some (pm_ft ci k)) && (decide (defaultValue (pm_ft ci k) = (pm_D.getD ci []).getD k .null) && (decide ((pm_fT ci k).1 = pm_R ci) && (List.range (pm_cN ci)).all (fun b => decide (k = b) || decide ((pm_fT ci k).2.1 ≠ (pm_fT ci b).2.1)))))))))
theorem pm_clok0 : (List.range 13).all pm_clk = true := by decide +kernel
theorem pm_clok : ∀ ci, ci < 13 → pm_clk ci = true := fun ci h => List.all_eq_true.mp pm_clok0 ci (List.mem_range.mpr h)
theorem pm_cl_at : ∀ ci, ci < 13 → pm_cl[ci]? = some (pm_R ci, pm_fT ci, pm_cN ci) := by
  intro ci h
  match ci, h with
  | 0, _ => rfl
  | 1, _ => rfl
  | 2, _ => rfl
  | 3, _ => rfl
  | 4, _ => rfl
  | 5, _ => rfl
  | 6, _ => rfl
  | 7, _ => rfl
  | 8, _ => rfl
  | 9, _ => rfl
  | 10, _ => rfl
  | 11, _ => rfl
  | 12, _ => rfl
  | n + 13, h => omega
theorem pm_ac_int : Cond.arrayClass .int ∈ lw_tbl := pm_w1_in (i := 164) (by decide +kernel)
theorem pm_ac_long : Cond.arrayClass .long ∈ lw_tbl := pm_w1_in (i := 349) (by decide +kernel)
theorem pm_ac_byte : Cond.arrayClass .byte ∈ lw_tbl := pm_w1_in (i := 636) (by decide +kernel)
theorem pm_ac_boolean : Cond.arrayClass .boolean ∈ lw_tbl := pm_w1_in (i := 466) (by decide +kernel)
theorem pm_ao_0 : Cond.arrayOver (.object (pm_R 0)) ∈ lw_tbl := pm_w1_in (i := 316) (by decide +kernel)
theorem pm_ao_5 : Cond.arrayOver (.object (pm_R 5)) ∈ lw_tbl := pm_w1_in (i := 266) (by decide +kernel)
theorem pm_ao_7 : Cond.arrayOver (.object (pm_R 7)) ∈ lw_tbl := pm_w1_in (i := 308) (by decide +kernel)
theorem pm_lw_oi : Cond.instanceMethod Lib.objectInit ∈ lw_tbl := pm_w1_in (i := 142) (by decide +kernel)
theorem pm_lw_oc : Cond.code Lib.objectInit ⟨#[0xb1]⟩ 1 none ∈ lw_tbl := pm_w1_in (i := 143) (by decide +kernel)
theorem pm_lw_maxs : Cond.static Lib.Math.max.name ∈ lw_tbl := pm_w1_in (i := 728) (by decide +kernel)
theorem pm_lw_maxc : Cond.code Lib.Math.max.name Lib.Math.max.code 2 (some .int) ∈ lw_tbl := pm_w1_in (i := 729) (by decide +kernel)
theorem pm_lw_mins : Cond.static Lib.Math.min.name ∈ lw_tbl := pm_w1_in (i := 725) (by decide +kernel)
theorem pm_lw_minc : Cond.code Lib.Math.min.name Lib.Math.min.code 2 (some .int) ∈ lw_tbl := pm_w1_in (i := 726) (by decide +kernel)
theorem pm_lw_maxls : Cond.static Lib.MathLoose.max_long.x ∈ lw_tbl := pm_w1_in (i := 830) (by decide +kernel)
theorem pm_lw_maxlc : Cond.code Lib.MathLoose.max_long.x Lib.MathLoose.max_long.code 4 (some .long) ∈ lw_tbl := pm_w1_in (i := 831) (by decide +kernel)
theorem pm_lw_minls : Cond.static Lib.MathLoose.min_long.x ∈ lw_tbl := pm_w1_in (i := 827) (by decide +kernel)
theorem pm_lw_minlc : Cond.code Lib.MathLoose.min_long.x Lib.MathLoose.min_long.code 4 (some .long) ∈ lw_tbl := pm_w1_in (i := 828) (by decide +kernel)
theorem pm_lw_mi : Cond.initialized "java/lang/Math" ∈ lw_tbl := pm_w1_in (i := 134) (by decide +kernel)
theorem pm_lw_si : Cond.initialized "java/lang/System" ∈ lw_tbl := pm_w1_in (i := 132) (by decide +kernel)
theorem pm_lw_an : Cond.native arraycopyName ∈ lw_tbl := pm_w1_in (i := 631) (by decide +kernel)
theorem pm_lw_as : Cond.static arraycopyName ∈ lw_tbl := pm_w1_in (i := 630) (by decide +kernel)
theorem pm_Tlen : pm_T.length = 264 := by decide +kernel
