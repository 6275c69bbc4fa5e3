/-! ===== the law's cases ===== -/
set_option maxRecDepth 100000 in
theorem cv_RL_13 : CV RL 13 yX11_state cX11_state 3 (some .int) 1 := ⟨(TS_p2 195 rfl rfl), (TS_p2 196 rfl rfl), (TS_p2 197 rfl rfl), (TS_p1 1 rfl rfl), (TS_p2 198 rfl rfl), ⟨by decide, by decide, by decide +kernel⟩⟩
set_option maxRecDepth 100000 in
theorem cv_RL_17 : CV RL 17 yX12_state cX12_state 3 (some .int) 1 := ⟨(TS_p7 24 rfl rfl), (TS_p7 25 rfl rfl), (TS_p7 26 rfl rfl), (TS_p1 13 rfl rfl), (TS_p7 27 rfl rfl), ⟨by decide, by decide, by decide +kernel⟩⟩
set_option maxRecDepth 100000 in
theorem cv_RL_18 : CV RL 18 yX11_person cX11_person 2 (some .int) 1 := ⟨(TS_p2 203 rfl rfl), (TS_p2 204 rfl rfl), (TS_p2 205 rfl rfl), (TS_p1 1 rfl rfl), (TS_p2 206 rfl rfl), ⟨by decide, by decide, by decide +kernel⟩⟩
set_option maxRecDepth 100000 in
theorem cv_RL_21 : CV RL 21 yX12_person cX12_person 3 (some .int) 1 := ⟨(TS_p7 28 rfl rfl), (TS_p7 29 rfl rfl), (TS_p7 30 rfl rfl), (TS_p1 13 rfl rfl), (TS_p7 31 rfl rfl), ⟨by decide, by decide, by decide +kernel⟩⟩
set_option maxRecDepth 100000 in
theorem cv_RL_22 : CV RL 22 yX11_set cX11_set 5 (some .boolean) 3 := ⟨(TS_p2 211 rfl rfl), (TS_p2 212 rfl rfl), (TS_p2 213 rfl rfl), (TS_p1 1 rfl rfl), (TS_p2 214 rfl rfl), ⟨by decide, by decide, by decide +kernel⟩⟩
set_option maxRecDepth 100000 in
theorem cv_RL_26 : CV RL 26 yX12_set cX12_set 4 (some .boolean) 3 := ⟨(TS_p7 36 rfl rfl), (TS_p7 37 rfl rfl), (TS_p7 38 rfl rfl), (TS_p1 13 rfl rfl), (TS_p7 39 rfl rfl), ⟨by decide, by decide, by decide +kernel⟩⟩
set_option maxRecDepth 100000 in
theorem cv_RL_27 : CV RL 27 yX11_act cX11_act 4 (some .boolean) 3 := ⟨(TS_p2 227 rfl rfl), (TS_p2 228 rfl rfl), (TS_p2 229 rfl rfl), (TS_p1 1 rfl rfl), (TS_p2 230 rfl rfl), ⟨by decide, by decide, by decide +kernel⟩⟩
set_option maxRecDepth 100000 in
theorem cv_RL_30 : CV RL 30 yX12_act cX12_act 4 (some .boolean) 3 := ⟨(TS_p7 200 rfl rfl), (TS_p7 201 rfl rfl), (TS_p7 202 rfl rfl), (TS_p1 13 rfl rfl), (TS_p7 203 rfl rfl), ⟨by decide, by decide, by decide +kernel⟩⟩
set_option maxRecDepth 100000 in
theorem cv_RL_31 : CV RL 31 yX11_minutes cX11_minutes 4 (some .int) 1 := ⟨(TS_p3 74 rfl rfl), (TS_p3 75 rfl rfl), (TS_p3 76 rfl rfl), (TS_p1 1 rfl rfl), (TS_p3 77 rfl rfl), ⟨by decide, by decide, by decide +kernel⟩⟩
set_option maxRecDepth 100000 in
theorem cv_RL_34 : CV RL 34 yX12_minutes cX12_minutes 4 (some .int) 1 := ⟨(TS_p8 68 rfl rfl), (TS_p8 69 rfl rfl), (TS_p8 70 rfl rfl), (TS_p1 13 rfl rfl), (TS_p8 71 rfl rfl), ⟨by decide, by decide, by decide +kernel⟩⟩
set_option maxRecDepth 100000 in
theorem cv_RL_35 : CV RL 35 yX11_feed cX11_feed 7 (some .int) 5 := ⟨(TS_p3 105 rfl rfl), (TS_p3 106 rfl rfl), (TS_p3 107 rfl rfl), (TS_p1 1 rfl rfl), (TS_p3 108 rfl rfl), ⟨by decide, by decide, by decide +kernel⟩⟩
set_option maxRecDepth 100000 in
theorem cv_RL_39 : CV RL 39 yX12_feed cX12_feed 6 (some .int) 5 := ⟨(TS_p7 48 rfl rfl), (TS_p7 49 rfl rfl), (TS_p7 50 rfl rfl), (TS_p1 13 rfl rfl), (TS_p7 51 rfl rfl), ⟨by decide, by decide, by decide +kernel⟩⟩
set_option maxRecDepth 100000 in
theorem cv_RL_40 : CV RL 40 yX11_end cX11_end 2 (some .boolean) 1 := ⟨(TS_p3 117 rfl rfl), (TS_p3 118 rfl rfl), (TS_p3 119 rfl rfl), (TS_p1 1 rfl rfl), (TS_p3 120 rfl rfl), ⟨by decide, by decide, by decide +kernel⟩⟩
set_option maxRecDepth 100000 in
theorem cv_RL_44 : CV RL 44 yX12_end cX12_end 2 (some .boolean) 1 := ⟨(TS_p7 56 rfl rfl), (TS_p7 57 rfl rfl), (TS_p7 58 rfl rfl), (TS_p1 13 rfl rfl), (TS_p7 59 rfl rfl), ⟨by decide, by decide, by decide +kernel⟩⟩
set_option maxRecDepth 100000 in
theorem cv_RL_45 : CV RL 45 yX11_text cX11_text 3 (some .int) 1 := ⟨(TS_p3 125 rfl rfl), (TS_p3 126 rfl rfl), (TS_p3 127 rfl rfl), (TS_p1 1 rfl rfl), (TS_p3 128 rfl rfl), ⟨by decide, by decide, by decide +kernel⟩⟩
set_option maxRecDepth 100000 in
theorem cv_RL_48 : CV RL 48 yX12_text cX12_text 3 (some .int) 1 := ⟨(TS_p7 60 rfl rfl), (TS_p7 61 rfl rfl), (TS_p7 62 rfl rfl), (TS_p1 13 rfl rfl), (TS_p7 63 rfl rfl), ⟨by decide, by decide, by decide +kernel⟩⟩
set_option maxRecDepth 100000 in
theorem cv_RL_49 : CV RL 49 yX11_fault cX11_fault 2 (some .int) 1 := ⟨(TS_p4 194 rfl rfl), (TS_p4 195 rfl rfl), (TS_p4 196 rfl rfl), (TS_p1 1 rfl rfl), (TS_p4 197 rfl rfl), ⟨by decide, by decide, by decide +kernel⟩⟩
set_option maxRecDepth 100000 in
theorem cv_RL_52 : CV RL 52 yX12_fault cX12_fault 2 (some .int) 1 := ⟨(TS_p7 196 rfl rfl), (TS_p7 197 rfl rfl), (TS_p7 198 rfl rfl), (TS_p1 13 rfl rfl), (TS_p7 199 rfl rfl), ⟨by decide, by decide, by decide +kernel⟩⟩
set_option maxRecDepth 100000 in
theorem cv_RL_53 : CV RL 53 yX11_of cX11_of 3 (some .int) 2 := ⟨(TS_p4 198 rfl rfl), (TS_p4 199 rfl rfl), (TS_p4 200 rfl rfl), (TS_p1 1 rfl rfl), (TS_p4 201 rfl rfl), ⟨by decide, by decide, by decide +kernel⟩⟩
set_option maxRecDepth 100000 in
theorem cv_RL_57 : CV RL 57 yX12_of cX12_of 3 (some .int) 2 := ⟨(TS_p8 106 rfl rfl), (TS_p8 107 rfl rfl), (TS_p8 108 rfl rfl), (TS_p1 13 rfl rfl), (TS_p8 109 rfl rfl), ⟨by decide, by decide, by decide +kernel⟩⟩
set_option maxRecDepth 100000 in
theorem cv_RL_58 : CV RL 58 yX11_book cX11_book 3 (some .int) 2 := ⟨(TS_p4 212 rfl rfl), (TS_p4 213 rfl rfl), (TS_p4 214 rfl rfl), (TS_p1 1 rfl rfl), (TS_p4 215 rfl rfl), ⟨by decide, by decide, by decide +kernel⟩⟩
set_option maxRecDepth 100000 in
theorem cv_RL_61 : CV RL 61 yX12_book cX12_book 3 (some .int) 2 := ⟨(TS_p8 110 rfl rfl), (TS_p8 111 rfl rfl), (TS_p8 112 rfl rfl), (TS_p1 13 rfl rfl), (TS_p8 113 rfl rfl), ⟨by decide, by decide, by decide +kernel⟩⟩
set_option maxRecDepth 100000 in
theorem cv_RL_62 : CV RL 62 yX11_goes cX11_goes 4 (some .int) 2 := ⟨(TS_p4 216 rfl rfl), (TS_p4 217 rfl rfl), (TS_p4 218 rfl rfl), (TS_p1 1 rfl rfl), (TS_p4 219 rfl rfl), ⟨by decide, by decide, by decide +kernel⟩⟩
set_option maxRecDepth 100000 in
theorem cv_RL_65 : CV RL 65 yX12_goes cX12_goes 4 (some .int) 2 := ⟨(TS_p8 114 rfl rfl), (TS_p8 115 rfl rfl), (TS_p8 116 rfl rfl), (TS_p1 13 rfl rfl), (TS_p8 117 rfl rfl), ⟨by decide, by decide, by decide +kernel⟩⟩
set_option maxRecDepth 100000 in
theorem cv_RL_66 : CV RL 66 yX11_peace cX11_peace 2 (some .int) 0 := ⟨(TS_p4 224 rfl rfl), (TS_p4 225 rfl rfl), (TS_p4 226 rfl rfl), (TS_p1 1 rfl rfl), (TS_p4 227 rfl rfl), ⟨by decide, by decide, by decide +kernel⟩⟩
set_option maxRecDepth 100000 in
theorem cv_RL_70 : CV RL 70 yX12_peace cX12_peace 2 (some .int) 0 := ⟨(TS_p8 130 rfl rfl), (TS_p8 131 rfl rfl), (TS_p8 132 rfl rfl), (TS_p1 13 rfl rfl), (TS_p8 133 rfl rfl), ⟨by decide, by decide, by decide +kernel⟩⟩
set_option maxRecDepth 100000 in
theorem cv_RL_71 : CV RL 71 yX11_back cX11_back 2 (some .int) 1 := ⟨(TS_p4 229 rfl rfl), (TS_p4 230 rfl rfl), (TS_p4 231 rfl rfl), (TS_p1 1 rfl rfl), (TS_p4 232 rfl rfl), ⟨by decide, by decide, by decide +kernel⟩⟩
set_option maxRecDepth 100000 in
theorem cv_RL_74 : CV RL 74 yX12_back cX12_back 5 (some .int) 1 := ⟨(TS_p8 134 rfl rfl), (TS_p8 135 rfl rfl), (TS_p8 136 rfl rfl), (TS_p1 13 rfl rfl), (TS_p8 137 rfl rfl), ⟨by decide, by decide, by decide +kernel⟩⟩
set_option maxRecDepth 100000 in
theorem cv_RL_75 : CV RL 75 yX11_breath cX11_breath 3 (some .int) 1 := ⟨(TS_p4 238 rfl rfl), (TS_p4 239 rfl rfl), (TS_p5 0 rfl rfl), (TS_p1 1 rfl rfl), (TS_p5 1 rfl rfl), ⟨by decide, by decide, by decide +kernel⟩⟩
set_option maxRecDepth 100000 in
theorem cv_RL_78 : CV RL 78 yX12_breath cX12_breath 2 (some .int) 1 := ⟨(TS_p8 138 rfl rfl), (TS_p8 139 rfl rfl), (TS_p8 140 rfl rfl), (TS_p1 13 rfl rfl), (TS_p8 141 rfl rfl), ⟨by decide, by decide, by decide +kernel⟩⟩
set_option maxRecDepth 100000 in
theorem cv_RL_79 : CV RL 79 yX11_held cX11_held 2 (some .int) 1 := ⟨(TS_p5 15 rfl rfl), (TS_p5 16 rfl rfl), (TS_p5 17 rfl rfl), (TS_p1 1 rfl rfl), (TS_p5 18 rfl rfl), ⟨by decide, by decide, by decide +kernel⟩⟩
set_option maxRecDepth 100000 in
theorem cv_RL_82 : CV RL 82 yX12_held cX12_held 6 (some .int) 1 := ⟨(TS_p8 142 rfl rfl), (TS_p8 143 rfl rfl), (TS_p8 144 rfl rfl), (TS_p1 13 rfl rfl), (TS_p8 145 rfl rfl), ⟨by decide, by decide, by decide +kernel⟩⟩
set_option maxRecDepth 100000 in
theorem cv_RL_83 : CV RL 83 yX11_least cX11_least 5 (some .int) 2 := ⟨(TS_p5 29 rfl rfl), (TS_p5 30 rfl rfl), (TS_p5 31 rfl rfl), (TS_p1 1 rfl rfl), (TS_p5 32 rfl rfl), ⟨by decide, by decide, by decide +kernel⟩⟩
set_option maxRecDepth 100000 in
theorem cv_RL_86 : CV RL 86 yX12_least cX12_least 6 (some .int) 2 := ⟨(TS_p8 151 rfl rfl), (TS_p8 152 rfl rfl), (TS_p8 153 rfl rfl), (TS_p1 13 rfl rfl), (TS_p8 154 rfl rfl), ⟨by decide, by decide, by decide +kernel⟩⟩
set_option maxRecDepth 100000 in
theorem cv_RL_87 : CV RL 87 yX11_heads cX11_heads 3 (some .int) 2 := ⟨(TS_p5 41 rfl rfl), (TS_p5 42 rfl rfl), (TS_p5 43 rfl rfl), (TS_p1 1 rfl rfl), (TS_p5 44 rfl rfl), ⟨by decide, by decide, by decide +kernel⟩⟩
set_option maxRecDepth 100000 in
theorem cv_RL_90 : CV RL 90 yX12_heads cX12_heads 5 (some .int) 2 := ⟨(TS_p8 155 rfl rfl), (TS_p8 156 rfl rfl), (TS_p8 157 rfl rfl), (TS_p1 13 rfl rfl), (TS_p8 158 rfl rfl), ⟨by decide, by decide, by decide +kernel⟩⟩
set_option maxRecDepth 100000 in
theorem cv_RL_91 : CV RL 91 yX11_said cX11_said 3 (some .int) 2 := ⟨(TS_p5 60 rfl rfl), (TS_p5 61 rfl rfl), (TS_p5 62 rfl rfl), (TS_p1 1 rfl rfl), (TS_p5 63 rfl rfl), ⟨by decide, by decide, by decide +kernel⟩⟩
set_option maxRecDepth 100000 in
theorem cv_RL_94 : CV RL 94 yX12_said cX12_said 6 (some .int) 2 := ⟨(TS_p8 164 rfl rfl), (TS_p8 165 rfl rfl), (TS_p8 166 rfl rfl), (TS_p1 13 rfl rfl), (TS_p8 167 rfl rfl), ⟨by decide, by decide, by decide +kernel⟩⟩
set_option maxRecDepth 100000 in
theorem cv_RL_95 : CV RL 95 yX11_digit cX11_digit 3 (some .int) 2 := ⟨(TS_p5 67 rfl rfl), (TS_p5 68 rfl rfl), (TS_p5 69 rfl rfl), (TS_p1 1 rfl rfl), (TS_p5 70 rfl rfl), ⟨by decide, by decide, by decide +kernel⟩⟩
set_option maxRecDepth 100000 in
theorem cv_RL_98 : CV RL 98 yX12_digit cX12_digit 8 (some .int) 2 := ⟨(TS_p8 168 rfl rfl), (TS_p8 169 rfl rfl), (TS_p8 170 rfl rfl), (TS_p1 13 rfl rfl), (TS_p8 171 rfl rfl), ⟨by decide, by decide, by decide +kernel⟩⟩
set_option maxRecDepth 100000 in
theorem cv_RL_99 : CV RL 99 yX11_call cX11_call 5 (some .int) 3 := ⟨(TS_p5 78 rfl rfl), (TS_p5 79 rfl rfl), (TS_p5 80 rfl rfl), (TS_p1 1 rfl rfl), (TS_p5 81 rfl rfl), ⟨by decide, by decide, by decide +kernel⟩⟩
set_option maxRecDepth 100000 in
theorem cv_RL_103 : CV RL 103 yX12_call cX12_call 4 (some .int) 3 := ⟨(TS_p8 172 rfl rfl), (TS_p8 173 rfl rfl), (TS_p8 174 rfl rfl), (TS_p1 13 rfl rfl), (TS_p8 175 rfl rfl), ⟨by decide, by decide, by decide +kernel⟩⟩
set_option maxRecDepth 100000 in
theorem cv_RL_104 : CV RL 104 yX11_calls cX11_calls 2 (some .int) 1 := ⟨(TS_p5 82 rfl rfl), (TS_p5 83 rfl rfl), (TS_p5 84 rfl rfl), (TS_p1 1 rfl rfl), (TS_p5 85 rfl rfl), ⟨by decide, by decide, by decide +kernel⟩⟩
set_option maxRecDepth 100000 in
theorem cv_RL_107 : CV RL 107 yX12_calls cX12_calls 7 (some .int) 1 := ⟨(TS_p8 176 rfl rfl), (TS_p8 177 rfl rfl), (TS_p8 178 rfl rfl), (TS_p1 13 rfl rfl), (TS_p8 179 rfl rfl), ⟨by decide, by decide, by decide +kernel⟩⟩
set_option maxRecDepth 100000 in
theorem cv_RL_108 : CV RL 108 yX11_hics cX11_hics 4 (some .int) 3 := ⟨(TS_p5 110 rfl rfl), (TS_p5 111 rfl rfl), (TS_p5 112 rfl rfl), (TS_p1 1 rfl rfl), (TS_p5 113 rfl rfl), ⟨by decide, by decide, by decide +kernel⟩⟩
set_option maxRecDepth 100000 in
theorem cv_RL_111 : CV RL 111 yX12_hics cX12_hics 7 (some .int) 3 := ⟨(TS_p8 188 rfl rfl), (TS_p8 189 rfl rfl), (TS_p8 190 rfl rfl), (TS_p1 13 rfl rfl), (TS_p8 191 rfl rfl), ⟨by decide, by decide, by decide +kernel⟩⟩
set_option maxRecDepth 100000 in
theorem cv_RL_112 : CV RL 112 yX11_way cX11_way 5 (some .int) 3 := ⟨(TS_p5 122 rfl rfl), (TS_p5 123 rfl rfl), (TS_p5 124 rfl rfl), (TS_p1 1 rfl rfl), (TS_p5 125 rfl rfl), ⟨by decide, by decide, by decide +kernel⟩⟩
set_option maxRecDepth 100000 in
theorem cv_RL_115 : CV RL 115 yX12_way cX12_way 4 (some .int) 3 := ⟨(TS_p8 192 rfl rfl), (TS_p8 193 rfl rfl), (TS_p8 194 rfl rfl), (TS_p1 13 rfl rfl), (TS_p8 195 rfl rfl), ⟨by decide, by decide, by decide +kernel⟩⟩
set_option maxRecDepth 100000 in
theorem cv_RL_116 : CV RL 116 yX11_gossip cX11_gossip 4 (some .int) 3 := ⟨(TS_p5 129 rfl rfl), (TS_p5 130 rfl rfl), (TS_p5 131 rfl rfl), (TS_p1 1 rfl rfl), (TS_p5 132 rfl rfl), ⟨by decide, by decide, by decide +kernel⟩⟩
set_option maxRecDepth 100000 in
theorem cv_RL_119 : CV RL 119 yX12_gossip cX12_gossip 8 (some .int) 3 := ⟨(TS_p8 196 rfl rfl), (TS_p8 197 rfl rfl), (TS_p8 198 rfl rfl), (TS_p1 13 rfl rfl), (TS_p8 199 rfl rfl), ⟨by decide, by decide, by decide +kernel⟩⟩
set_option maxRecDepth 100000 in
theorem cv_RL_120 : CV RL 120 yX11_term cX11_term 4 (some .int) 2 := ⟨(TS_p5 141 rfl rfl), (TS_p5 142 rfl rfl), (TS_p5 143 rfl rfl), (TS_p1 1 rfl rfl), (TS_p5 144 rfl rfl), ⟨by decide, by decide, by decide +kernel⟩⟩
set_option maxRecDepth 100000 in
theorem cv_RL_123 : CV RL 123 yX12_term cX12_term 3 (some .int) 2 := ⟨(TS_p8 201 rfl rfl), (TS_p8 202 rfl rfl), (TS_p8 203 rfl rfl), (TS_p1 13 rfl rfl), (TS_p8 204 rfl rfl), ⟨by decide, by decide, by decide +kernel⟩⟩
set_option maxRecDepth 100000 in
theorem cv_RL_124 : CV RL 124 yX11_terms cX11_terms 3 (some .int) 2 := ⟨(TS_p5 149 rfl rfl), (TS_p5 150 rfl rfl), (TS_p5 151 rfl rfl), (TS_p1 1 rfl rfl), (TS_p5 152 rfl rfl), ⟨by decide, by decide, by decide +kernel⟩⟩
set_option maxRecDepth 100000 in
theorem cv_RL_127 : CV RL 127 yX12_terms cX12_terms 3 (some .int) 2 := ⟨(TS_p8 205 rfl rfl), (TS_p8 206 rfl rfl), (TS_p8 207 rfl rfl), (TS_p1 13 rfl rfl), (TS_p8 208 rfl rfl), ⟨by decide, by decide, by decide +kernel⟩⟩
set_option maxRecDepth 100000 in
theorem cv_RL_128 : CV RL 128 yX11_product cX11_product 2 (some .int) 1 := ⟨(TS_p5 158 rfl rfl), (TS_p5 159 rfl rfl), (TS_p5 160 rfl rfl), (TS_p1 1 rfl rfl), (TS_p5 161 rfl rfl), ⟨by decide, by decide, by decide +kernel⟩⟩
set_option maxRecDepth 100000 in
theorem cv_RL_131 : CV RL 131 yX12_product cX12_product 4 (some .int) 1 := ⟨(TS_p8 214 rfl rfl), (TS_p8 215 rfl rfl), (TS_p8 216 rfl rfl), (TS_p1 13 rfl rfl), (TS_p8 217 rfl rfl), ⟨by decide, by decide, by decide +kernel⟩⟩
set_option maxRecDepth 100000 in
theorem cv_RL_132 : CV RL 132 yX11_tongues cX11_tongues 4 (some .int) 3 := ⟨(TS_p5 171 rfl rfl), (TS_p5 172 rfl rfl), (TS_p5 173 rfl rfl), (TS_p1 1 rfl rfl), (TS_p5 174 rfl rfl), ⟨by decide, by decide, by decide +kernel⟩⟩
set_option maxRecDepth 100000 in
theorem cv_RL_135 : CV RL 135 yX12_tongues cX12_tongues 6 (some .int) 3 := ⟨(TS_p8 218 rfl rfl), (TS_p8 219 rfl rfl), (TS_p8 220 rfl rfl), (TS_p1 13 rfl rfl), (TS_p8 221 rfl rfl), ⟨by decide, by decide, by decide +kernel⟩⟩
set_option maxRecDepth 100000 in
theorem cv_RL_136 : CV RL 136 yX11_squares cX11_squares 3 (some .int) 2 := ⟨(TS_p5 185 rfl rfl), (TS_p5 186 rfl rfl), (TS_p5 187 rfl rfl), (TS_p1 1 rfl rfl), (TS_p5 188 rfl rfl), ⟨by decide, by decide, by decide +kernel⟩⟩
set_option maxRecDepth 100000 in
theorem cv_RL_139 : CV RL 139 yX12_squares cX12_squares 3 (some .int) 2 := ⟨(TS_p8 226 rfl rfl), (TS_p8 227 rfl rfl), (TS_p8 228 rfl rfl), (TS_p1 13 rfl rfl), (TS_p8 229 rfl rfl), ⟨by decide, by decide, by decide +kernel⟩⟩
set_option maxRecDepth 100000 in
theorem cv_RL_140 : CV RL 140 yX11_kin cX11_kin 2 (some .int) 1 := ⟨(TS_p5 199 rfl rfl), (TS_p5 200 rfl rfl), (TS_p5 201 rfl rfl), (TS_p1 1 rfl rfl), (TS_p5 202 rfl rfl), ⟨by decide, by decide, by decide +kernel⟩⟩
set_option maxRecDepth 100000 in
theorem cv_RL_143 : CV RL 143 yX12_kin cX12_kin 2 (some .int) 1 := ⟨(TS_p8 238 rfl rfl), (TS_p8 239 rfl rfl), (TS_p9 0 rfl rfl), (TS_p1 13 rfl rfl), (TS_p9 1 rfl rfl), ⟨by decide, by decide, by decide +kernel⟩⟩
set_option maxRecDepth 100000 in
theorem cv_RL_144 : CV RL 144 yX11_tree cX11_tree 6 (some .int) 3 := ⟨(TS_p5 206 rfl rfl), (TS_p5 207 rfl rfl), (TS_p5 208 rfl rfl), (TS_p1 1 rfl rfl), (TS_p5 209 rfl rfl), ⟨by decide, by decide, by decide +kernel⟩⟩
set_option maxRecDepth 100000 in
theorem cv_RL_147 : CV RL 147 yX12_tree cX12_tree 7 (some .int) 3 := ⟨(TS_p9 2 rfl rfl), (TS_p9 3 rfl rfl), (TS_p9 4 rfl rfl), (TS_p1 13 rfl rfl), (TS_p9 5 rfl rfl), ⟨by decide, by decide, by decide +kernel⟩⟩
set_option maxRecDepth 100000 in
theorem cv_RL_148 : CV RL 148 yX11_step cX11_step 2 (some .int) 1 := ⟨(TS_p5 231 rfl rfl), (TS_p5 232 rfl rfl), (TS_p5 233 rfl rfl), (TS_p1 1 rfl rfl), (TS_p5 234 rfl rfl), ⟨by decide, by decide, by decide +kernel⟩⟩
set_option maxRecDepth 100000 in
theorem cv_RL_151 : CV RL 151 yX12_step cX12_step 2 (some .int) 1 := ⟨(TS_p9 18 rfl rfl), (TS_p9 19 rfl rfl), (TS_p9 20 rfl rfl), (TS_p1 13 rfl rfl), (TS_p9 21 rfl rfl), ⟨by decide, by decide, by decide +kernel⟩⟩
set_option maxRecDepth 100000 in
theorem cv_RL_152 : CV RL 152 yX11_stair cX11_stair 4 (some .int) 3 := ⟨(TS_p5 235 rfl rfl), (TS_p5 236 rfl rfl), (TS_p5 237 rfl rfl), (TS_p1 1 rfl rfl), (TS_p5 238 rfl rfl), ⟨by decide, by decide, by decide +kernel⟩⟩
set_option maxRecDepth 100000 in
theorem cv_RL_155 : CV RL 155 yX12_stair cX12_stair 6 (some .int) 3 := ⟨(TS_p9 22 rfl rfl), (TS_p9 23 rfl rfl), (TS_p9 24 rfl rfl), (TS_p1 13 rfl rfl), (TS_p9 25 rfl rfl), ⟨by decide, by decide, by decide +kernel⟩⟩
set_option maxRecDepth 100000 in
theorem cv_RL_156 : CV RL 156 yX11_heap cX11_heap 2 (some .int) 1 := ⟨(TS_p6 12 rfl rfl), (TS_p6 13 rfl rfl), (TS_p6 14 rfl rfl), (TS_p1 1 rfl rfl), (TS_p6 15 rfl rfl), ⟨by decide, by decide, by decide +kernel⟩⟩
set_option maxRecDepth 100000 in
theorem cv_RL_159 : CV RL 159 yX12_heap cX12_heap 2 (some .int) 1 := ⟨(TS_p9 31 rfl rfl), (TS_p9 32 rfl rfl), (TS_p9 33 rfl rfl), (TS_p1 13 rfl rfl), (TS_p9 34 rfl rfl), ⟨by decide, by decide, by decide +kernel⟩⟩
set_option maxRecDepth 100000 in
theorem cv_RL_160 : CV RL 160 yX11_game cX11_game 1 (some .int) 0 := ⟨(TS_p6 16 rfl rfl), (TS_p6 17 rfl rfl), (TS_p6 18 rfl rfl), (TS_p1 1 rfl rfl), (TS_p6 19 rfl rfl), ⟨by decide, by decide, by decide +kernel⟩⟩
set_option maxRecDepth 100000 in
theorem cv_RL_163 : CV RL 163 yX12_game cX12_game 3 (some .int) 0 := ⟨(TS_p9 35 rfl rfl), (TS_p9 36 rfl rfl), (TS_p9 37 rfl rfl), (TS_p1 13 rfl rfl), (TS_p9 38 rfl rfl), ⟨by decide, by decide, by decide +kernel⟩⟩
set_option maxRecDepth 100000 in
theorem cv_RL_164 : CV RL 164 yX11_undo cX11_undo 1 (some .boolean) 0 := ⟨(TS_p6 27 rfl rfl), (TS_p6 28 rfl rfl), (TS_p6 29 rfl rfl), (TS_p1 1 rfl rfl), (TS_p6 30 rfl rfl), ⟨by decide, by decide, by decide +kernel⟩⟩
set_option maxRecDepth 100000 in
theorem cv_RL_168 : CV RL 168 yX12_undo cX12_undo 2 (some .boolean) 0 := ⟨(TS_p7 20 rfl rfl), (TS_p7 21 rfl rfl), (TS_p7 22 rfl rfl), (TS_p1 13 rfl rfl), (TS_p7 23 rfl rfl), ⟨by decide, by decide, by decide +kernel⟩⟩
set_option maxRecDepth 100000 in
theorem cv_RL_169 : CV RL 169 yX11_image cX11_image 2 (some .boolean) 1 := ⟨(TS_p6 31 rfl rfl), (TS_p6 32 rfl rfl), (TS_p6 33 rfl rfl), (TS_p1 1 rfl rfl), (TS_p6 34 rfl rfl), ⟨by decide, by decide, by decide +kernel⟩⟩
set_option maxRecDepth 100000 in
theorem cv_RL_173 : CV RL 173 yX12_image cX12_image 3 (some .boolean) 1 := ⟨(TS_p9 43 rfl rfl), (TS_p9 44 rfl rfl), (TS_p9 45 rfl rfl), (TS_p1 13 rfl rfl), (TS_p9 46 rfl rfl), ⟨by decide, by decide, by decide +kernel⟩⟩
set_option maxRecDepth 100000 in
theorem cv_RL_174 : CV RL 174 yX11_look cX11_look 2 (some .int) 1 := ⟨(TS_p6 53 rfl rfl), (TS_p6 54 rfl rfl), (TS_p6 55 rfl rfl), (TS_p1 1 rfl rfl), (TS_p6 56 rfl rfl), ⟨by decide, by decide, by decide +kernel⟩⟩
set_option maxRecDepth 100000 in
theorem cv_RL_177 : CV RL 177 yX12_look cX12_look 2 (some .int) 1 := ⟨(TS_p9 63 rfl rfl), (TS_p9 64 rfl rfl), (TS_p9 65 rfl rfl), (TS_p1 13 rfl rfl), (TS_p9 66 rfl rfl), ⟨by decide, by decide, by decide +kernel⟩⟩
/-- one case: both calls with the numbers ks, and the comparison that goes on -/
def twoB (pc i1 i2 : Nat) (off : Int) (ks : List Nat) : Bool :=
  decide (decode code pc = .ok (.aload_n 1, 1)) && argB (pc + 1) ks && decide (decode code (pc + 1 + 5 * ks.length) = .ok (.invokevirtual i1, 3)) &&
  decide (decode code (pc + 1 + 5 * ks.length + 3) = .ok (.aload_n 2, 1)) && argB (pc + 1 + 5 * ks.length + 3 + 1) ks && decide (decode code (pc + 1 + 5 * ks.length + 3 + 1 + 5 * ks.length) = .ok (.invokevirtual i2, 3)) &&
  decide (decode code (pc + 1 + 5 * ks.length + 3 + 1 + 5 * ks.length + 3) = .ok (.if_icmp .eq off, 3)) && decide (((pc + 1 + 5 * ks.length + 3 + 1 + 5 * ks.length + 3 : Nat) : Int) + off = ((1407 : Nat) : Int))
section LWT
variable {Z : LZ} {σ τ σ' τ' : Mem} {pc i i1 i2 nL1 nL2 fr1 fr2 : Nat} {off : Int} {v : Int32} {yn1 yn2 : MethodName} {cc1 cc2 : ByteArray} {ret1 ret2 : Option FieldType}
theorem lw_two (ks : List Nat) (X : LX Z) (hi : i + 6 ≤ Z.2.2.1.2.1) (hb : twoB pc i1 i2 off ks = true) (w1 : CV RL i1 yn1 cc1 nL1 ret1 ks.length) (w2 : CV RL i2 yn2 cc2 nL2 ret2 ks.length)
    (m1 : AM Z.1.2.1 Z.2.2.2.1 Z.2.2.2.2.2.1 Z.2.2.2.2.1 0 Z.2.2.2.2.2.2.2.1 yn1 cc1 nL1 ret1 fr1 (.ref (Z.2.2.2.2.2.1 0) :: scA Z i ks) (some (.int v)) σ σ')
    (m2 : AM Z.1.2.1 Z.2.2.2.1 Z.2.2.2.2.2.2.1 Z.2.2.2.2.1 1 Z.2.2.2.2.2.2.2.1 yn2 cc2 nL2 ret2 fr2 (.ref (Z.2.2.2.2.2.2.1 0) :: scA Z i ks) (some (.int v)) τ τ')
    (c1 : yn1.cls = "HiccupLane") (c2 : yn2.cls = "HiccupLaneModel") (f1 : fr1 ≤ 400) (f2 : fr2 ≤ 400) (n1 : nL1 ≤ 45) (n2 : nL2 ≤ 45)
    (K : LW Z σ' τ' 1407 (LL Z i) []) : LW Z σ τ pc (LL Z i) [] := by
  unfold twoB at hb
  simp only [Bool.and_eq_true, decide_eq_true_eq] at hb
  obtain ⟨⟨⟨⟨⟨⟨⟨d0, d1⟩, d2⟩, d3⟩, d4⟩, d5⟩, d6⟩, d7⟩ := hb
  have hl : (scA Z i ks).length = ks.length := by simp [scA]
  refine lw_aload (k := 1) X d0 rfl ?_
  refine lw_args X hi ks _ _ d1 ?_
  refine lw_call0 X d2 w1 m1 c1 f1 n1 hl rfl (by decide) ?_
  refine lw_aload (k := 2) X d3 rfl ?_
  refine lw_args X hi ks _ _ d4 ?_
  refine lw_call1 X d5 w2 m2 c2 f2 n2 hl rfl (by simp [Value.category]) ?_
  exact lw_icmpeq X d6 d7 K
/-- a number turned into a truth value -/
def bitB (pc : Nat) : Bool :=
  decide (decode code pc = .ok (.ifCond .eq 7, 3)) && decide (decode code (pc + 3) = .ok (.iconst 1, 1)) && decide (decode code (pc + 3 + 1) = .ok (.goto 4, 3)) && decide (decode code (pc + 7) = .ok (.iconst 0, 1))
theorem lw_bit {L : List (Option Value)} {st : List Value} {x : Int32} (X : LX Z) (hb : bitB pc = true) (K : LW Z σ τ (pc + 8) L (.int (if x = 0 then 0 else 1) :: st)) : LW Z σ τ pc L (.int x :: st) := by
  unfold bitB at hb
  simp only [Bool.and_eq_true, decide_eq_true_eq] at hb
  obtain ⟨⟨⟨d0, d1⟩, d2⟩, d3⟩ := hb
  refine lw_ifeq (tgt := pc + 7) X d0 (by omega) (fun hx => ?_) (fun hx => ?_)
  · rw [if_pos hx] at K
    exact lw_iconst X d3 rfl K
  · rw [if_neg hx] at K
    exact lw_iconst X d1 rfl (lw_goto (tgt := pc + 8) X d2 (by omega) K)
end LWT
section LWC
variable {Z : LZ} {σ τ : Mem} {i : Nat}
theorem lw_c0 (X : LX Z) (hi : i + 6 ≤ Z.2.2.1.2.1) (h : GR σ τ) (K : ∀ σ' τ', GR σ' τ' → LW Z σ' τ' 1407 (LL Z i) []) : LW Z σ τ 204 (LL Z i) [] := by
  have q : opR (f_X11_state (Z.2.2.1.2.2 (i + 1)) σ) (f_X12_state (Z.2.2.1.2.2 (i + 1)) τ) := o_state h
  obtain ⟨⟨v, s'⟩, ⟨v', t'⟩, e1, e2, e3, e4⟩ := q
  dsimp only at e3 e4
  subst e3
  exact lw_two (off := 1185) [1] X hi (by decide +kernel) cv_RL_13 cv_RL_17 (ok_X11_state e1 _ _ _ _ _) (ok_X12_state e2 _ _ _ _ _) rfl rfl (by decide) (by decide) (by decide) (by decide) (K _ _ e4)
theorem lw_c1 (X : LX Z) (hi : i + 6 ≤ Z.2.2.1.2.1) (h : GR σ τ) (K : ∀ σ' τ', GR σ' τ' → LW Z σ' τ' 1407 (LL Z i) []) : LW Z σ τ 227 (LL Z i) [] := by
  have q : opR (f_X11_person (Z.2.2.1.2.2 (i + 1)) σ) (f_X12_person (Z.2.2.1.2.2 (i + 1)) τ) := o_person h
  obtain ⟨⟨v, s'⟩, ⟨v', t'⟩, e1, e2, e3, e4⟩ := q
  dsimp only at e3 e4
  subst e3
  exact lw_two (off := 1162) [1] X hi (by decide +kernel) cv_RL_18 cv_RL_21 (ok_X11_person e1 _ _ _ _ _) (ok_X12_person e2 _ _ _ _ _) rfl rfl (by decide) (by decide) (by decide) (by decide) (K _ _ e4)
theorem lw_c2 (X : LX Z) (hi : i + 6 ≤ Z.2.2.1.2.1) (h : GR σ τ) (K : ∀ σ' τ', GR σ' τ' → LW Z σ' τ' 1407 (LL Z i) []) : LW Z σ τ 250 (LL Z i) [] := by
  have q : opR (f_X11_set (Z.2.2.1.2.2 (i + 1)) (Z.2.2.1.2.2 (i + 2)) (Z.2.2.1.2.2 (i + 3)) σ) (f_X12_set (Z.2.2.1.2.2 (i + 1)) (Z.2.2.1.2.2 (i + 2)) (Z.2.2.1.2.2 (i + 3)) τ) := o_set h
  obtain ⟨⟨v, s'⟩, ⟨v', t'⟩, e1, e2, e3, e4⟩ := q
  dsimp only at e3 e4
  subst e3
  exact lw_two (off := 1119) [1, 2, 3] X hi (by decide +kernel) cv_RL_22 cv_RL_26 (ok_X11_set e1 _ _ _ _ _) (ok_X12_set e2 _ _ _ _ _) rfl rfl (by decide) (by decide) (by decide) (by decide) (K _ _ e4)
theorem lw_c3 (X : LX Z) (hi : i + 6 ≤ Z.2.2.1.2.1) (h : GR σ τ) (K : ∀ σ' τ', GR σ' τ' → LW Z σ' τ' 1407 (LL Z i) []) : LW Z σ τ 293 (LL Z i) [] := by
  have q : opR (f_X11_act (Z.2.2.1.2.2 (i + 1)) (Z.2.2.1.2.2 (i + 2)) (Z.2.2.1.2.2 (i + 3)) σ) (f_X12_act (Z.2.2.1.2.2 (i + 1)) (Z.2.2.1.2.2 (i + 2)) (Z.2.2.1.2.2 (i + 3)) τ) := o_act h
  obtain ⟨⟨v, s'⟩, ⟨v', t'⟩, e1, e2, e3, e4⟩ := q
  dsimp only at e3 e4
  subst e3
  exact lw_two (off := 1076) [1, 2, 3] X hi (by decide +kernel) cv_RL_27 cv_RL_30 (ok_X11_act e1 _ _ _ _ _) (ok_X12_act e2 _ _ _ _ _) rfl rfl (by decide) (by decide) (by decide) (by decide) (K _ _ e4)
theorem lw_c4 (X : LX Z) (hi : i + 6 ≤ Z.2.2.1.2.1) (h : GR σ τ) (K : ∀ σ' τ', GR σ' τ' → LW Z σ' τ' 1407 (LL Z i) []) : LW Z σ τ 336 (LL Z i) [] := by
  have q : opR (f_X11_minutes (Z.2.2.1.2.2 (i + 1)) σ) (f_X12_minutes (Z.2.2.1.2.2 (i + 1)) τ) := o_minutes h
  obtain ⟨⟨v, s'⟩, ⟨v', t'⟩, e1, e2, e3, e4⟩ := q
  dsimp only at e3 e4
  subst e3
  exact lw_two (off := 1053) [1] X hi (by decide +kernel) cv_RL_31 cv_RL_34 (ok_X11_minutes e1 _ _ _ _ _) (ok_X12_minutes e2 _ _ _ _ _) rfl rfl (by decide) (by decide) (by decide) (by decide) (K _ _ e4)
theorem lw_c5 (X : LX Z) (hi : i + 6 ≤ Z.2.2.1.2.1) (h : GR σ τ) (K : ∀ σ' τ', GR σ' τ' → LW Z σ' τ' 1407 (LL Z i) []) : LW Z σ τ 359 (LL Z i) [] := by
  have q : opR (f_X11_feed (Z.2.2.1.2.2 (i + 1)) (Z.2.2.1.2.2 (i + 2)) (Z.2.2.1.2.2 (i + 3)) (Z.2.2.1.2.2 (i + 4)) (Z.2.2.1.2.2 (i + 5)) σ) (f_X12_feed (Z.2.2.1.2.2 (i + 1)) (Z.2.2.1.2.2 (i + 2)) (Z.2.2.1.2.2 (i + 3)) (Z.2.2.1.2.2 (i + 4)) (Z.2.2.1.2.2 (i + 5)) τ) := o_feed h
  obtain ⟨⟨v, s'⟩, ⟨v', t'⟩, e1, e2, e3, e4⟩ := q
  dsimp only at e3 e4
  subst e3
  exact lw_two (off := 990) [1, 2, 3, 4, 5] X hi (by decide +kernel) cv_RL_35 cv_RL_39 (ok_X11_feed e1 _ _ _ _ _) (ok_X12_feed e2 _ _ _ _ _) rfl rfl (by decide) (by decide) (by decide) (by decide) (K _ _ e4)
theorem lw_c6 (X : LX Z) (hi : i + 6 ≤ Z.2.2.1.2.1) (h : GR σ τ) (K : ∀ σ' τ', GR σ' τ' → LW Z σ' τ' 1407 (LL Z i) []) : LW Z σ τ 422 (LL Z i) [] := by
  have q : opR (f_X11_end (Z.2.2.1.2.2 (i + 1)) σ) (f_X12_end (Z.2.2.1.2.2 (i + 1)) τ) := o_end h
  obtain ⟨⟨v, s'⟩, ⟨v', t'⟩, e1, e2, e3, e4⟩ := q
  dsimp only at e3 e4
  subst e3
  exact lw_two (off := 967) [1] X hi (by decide +kernel) cv_RL_40 cv_RL_44 (ok_X11_end e1 _ _ _ _ _) (ok_X12_end e2 _ _ _ _ _) rfl rfl (by decide) (by decide) (by decide) (by decide) (K _ _ e4)
theorem lw_c7 (X : LX Z) (hi : i + 6 ≤ Z.2.2.1.2.1) (h : GR σ τ) (K : ∀ σ' τ', GR σ' τ' → LW Z σ' τ' 1407 (LL Z i) []) : LW Z σ τ 445 (LL Z i) [] := by
  have q : opR (f_X11_text (Z.2.2.1.2.2 (i + 1)) σ) (f_X12_text (Z.2.2.1.2.2 (i + 1)) τ) := o_text h
  obtain ⟨⟨v, s'⟩, ⟨v', t'⟩, e1, e2, e3, e4⟩ := q
  dsimp only at e3 e4
  subst e3
  exact lw_two (off := 944) [1] X hi (by decide +kernel) cv_RL_45 cv_RL_48 (ok_X11_text e1 _ _ _ _ _) (ok_X12_text e2 _ _ _ _ _) rfl rfl (by decide) (by decide) (by decide) (by decide) (K _ _ e4)
theorem lw_c8 (X : LX Z) (hi : i + 6 ≤ Z.2.2.1.2.1) (h : GR σ τ) (K : ∀ σ' τ', GR σ' τ' → LW Z σ' τ' 1407 (LL Z i) []) : LW Z σ τ 468 (LL Z i) [] := by
  have q : opR (f_X11_fault (Z.2.2.1.2.2 (i + 1)) σ) (f_X12_fault (Z.2.2.1.2.2 (i + 1)) τ) := o_fault h
  obtain ⟨⟨v, s'⟩, ⟨v', t'⟩, e1, e2, e3, e4⟩ := q
  dsimp only at e3 e4
  subst e3
  exact lw_two (off := 921) [1] X hi (by decide +kernel) cv_RL_49 cv_RL_52 (ok_X11_fault e1 _ _ _ _ _) (ok_X12_fault e2 _ _ _ _ _) rfl rfl (by decide) (by decide) (by decide) (by decide) (K _ _ e4)
theorem lw_c9 (X : LX Z) (hi : i + 6 ≤ Z.2.2.1.2.1) (h : GR σ τ) (K : ∀ σ' τ', GR σ' τ' → LW Z σ' τ' 1407 (LL Z i) []) : LW Z σ τ 491 (LL Z i) [] := by
  have q : opR (f_X11_of (Z.2.2.1.2.2 (i + 1)) (Z.2.2.1.2.2 (i + 2)) σ) (f_X12_of (Z.2.2.1.2.2 (i + 1)) (Z.2.2.1.2.2 (i + 2)) τ) := o_of h
  obtain ⟨⟨v, s'⟩, ⟨v', t'⟩, e1, e2, e3, e4⟩ := q
  dsimp only at e3 e4
  subst e3
  exact lw_two (off := 888) [1, 2] X hi (by decide +kernel) cv_RL_53 cv_RL_57 (ok_X11_of e1 _ _ _ _ _) (ok_X12_of e2 _ _ _ _ _) rfl rfl (by decide) (by decide) (by decide) (by decide) (K _ _ e4)
theorem lw_c10 (X : LX Z) (hi : i + 6 ≤ Z.2.2.1.2.1) (h : GR σ τ) (K : ∀ σ' τ', GR σ' τ' → LW Z σ' τ' 1407 (LL Z i) []) : LW Z σ τ 524 (LL Z i) [] := by
  have q : opR (f_X11_book (Z.2.2.1.2.2 (i + 1)) (Z.2.2.1.2.2 (i + 2)) σ) (f_X12_book (Z.2.2.1.2.2 (i + 1)) (Z.2.2.1.2.2 (i + 2)) τ) := o_book h
  obtain ⟨⟨v, s'⟩, ⟨v', t'⟩, e1, e2, e3, e4⟩ := q
  dsimp only at e3 e4
  subst e3
  exact lw_two (off := 855) [1, 2] X hi (by decide +kernel) cv_RL_58 cv_RL_61 (ok_X11_book e1 _ _ _ _ _) (ok_X12_book e2 _ _ _ _ _) rfl rfl (by decide) (by decide) (by decide) (by decide) (K _ _ e4)
theorem lw_c11 (X : LX Z) (hi : i + 6 ≤ Z.2.2.1.2.1) (h : GR σ τ) (K : ∀ σ' τ', GR σ' τ' → LW Z σ' τ' 1407 (LL Z i) []) : LW Z σ τ 557 (LL Z i) [] := by
  have q : opR (f_X11_goes (Z.2.2.1.2.2 (i + 1)) (Z.2.2.1.2.2 (i + 2)) σ) (f_X12_goes (Z.2.2.1.2.2 (i + 1)) (Z.2.2.1.2.2 (i + 2)) τ) := o_goes h
  obtain ⟨⟨v, s'⟩, ⟨v', t'⟩, e1, e2, e3, e4⟩ := q
  dsimp only at e3 e4
  subst e3
  exact lw_two (off := 822) [1, 2] X hi (by decide +kernel) cv_RL_62 cv_RL_65 (ok_X11_goes e1 _ _ _ _ _) (ok_X12_goes e2 _ _ _ _ _) rfl rfl (by decide) (by decide) (by decide) (by decide) (K _ _ e4)
theorem lw_c12 (X : LX Z) (hi : i + 6 ≤ Z.2.2.1.2.1) (h : GR σ τ) (K : ∀ σ' τ', GR σ' τ' → LW Z σ' τ' 1407 (LL Z i) []) : LW Z σ τ 590 (LL Z i) [] := by
  have q : opR (f_X11_peace σ) (f_X12_peace τ) := o_peace h
  obtain ⟨⟨v, s'⟩, ⟨v', t'⟩, e1, e2, e3, e4⟩ := q
  dsimp only at e3 e4
  subst e3
  exact lw_two (off := 809) [] X hi (by decide +kernel) cv_RL_66 cv_RL_70 (ok_X11_peace e1 _ _ _ _ _) (ok_X12_peace e2 _ _ _ _ _) rfl rfl (by decide) (by decide) (by decide) (by decide) (K _ _ e4)
theorem lw_c13 (X : LX Z) (hi : i + 6 ≤ Z.2.2.1.2.1) (h : GR σ τ) (K : ∀ σ' τ', GR σ' τ' → LW Z σ' τ' 1407 (LL Z i) []) : LW Z σ τ 603 (LL Z i) [] := by
  have q : opR (f_X11_back (Z.2.2.1.2.2 (i + 1)) σ) (f_X12_back (Z.2.2.1.2.2 (i + 1)) τ) := o_back h
  obtain ⟨⟨v, s'⟩, ⟨v', t'⟩, e1, e2, e3, e4⟩ := q
  dsimp only at e3 e4
  subst e3
  exact lw_two (off := 786) [1] X hi (by decide +kernel) cv_RL_71 cv_RL_74 (ok_X11_back e1 _ _ _ _ _) (ok_X12_back e2 _ _ _ _ _) rfl rfl (by decide) (by decide) (by decide) (by decide) (K _ _ e4)
theorem lw_c14 (X : LX Z) (hi : i + 6 ≤ Z.2.2.1.2.1) (h : GR σ τ) (K : ∀ σ' τ', GR σ' τ' → LW Z σ' τ' 1407 (LL Z i) []) : LW Z σ τ 626 (LL Z i) [] := by
  have q : opR (f_X11_breath (Z.2.2.1.2.2 (i + 1)) σ) (f_X12_breath (Z.2.2.1.2.2 (i + 1)) τ) := o_breath h
  obtain ⟨⟨v, s'⟩, ⟨v', t'⟩, e1, e2, e3, e4⟩ := q
  dsimp only at e3 e4
  subst e3
  exact lw_two (off := 763) [1] X hi (by decide +kernel) cv_RL_75 cv_RL_78 (ok_X11_breath e1 _ _ _ _ _) (ok_X12_breath e2 _ _ _ _ _) rfl rfl (by decide) (by decide) (by decide) (by decide) (K _ _ e4)
theorem lw_c15 (X : LX Z) (hi : i + 6 ≤ Z.2.2.1.2.1) (h : GR σ τ) (K : ∀ σ' τ', GR σ' τ' → LW Z σ' τ' 1407 (LL Z i) []) : LW Z σ τ 649 (LL Z i) [] := by
  have q : opR (f_X11_held (Z.2.2.1.2.2 (i + 1)) σ) (f_X12_held (Z.2.2.1.2.2 (i + 1)) τ) := o_held h
  obtain ⟨⟨v, s'⟩, ⟨v', t'⟩, e1, e2, e3, e4⟩ := q
  dsimp only at e3 e4
  subst e3
  exact lw_two (off := 740) [1] X hi (by decide +kernel) cv_RL_79 cv_RL_82 (ok_X11_held e1 _ _ _ _ _) (ok_X12_held e2 _ _ _ _ _) rfl rfl (by decide) (by decide) (by decide) (by decide) (K _ _ e4)
theorem lw_c16 (X : LX Z) (hi : i + 6 ≤ Z.2.2.1.2.1) (h : GR σ τ) (K : ∀ σ' τ', GR σ' τ' → LW Z σ' τ' 1407 (LL Z i) []) : LW Z σ τ 672 (LL Z i) [] := by
  have q : opR (f_X11_least (Z.2.2.1.2.2 (i + 1)) (Z.2.2.1.2.2 (i + 2)) σ) (f_X12_least (Z.2.2.1.2.2 (i + 1)) (Z.2.2.1.2.2 (i + 2)) τ) := o_least h
  obtain ⟨⟨v, s'⟩, ⟨v', t'⟩, e1, e2, e3, e4⟩ := q
  dsimp only at e3 e4
  subst e3
  exact lw_two (off := 707) [1, 2] X hi (by decide +kernel) cv_RL_83 cv_RL_86 (ok_X11_least e1 _ _ _ _ _) (ok_X12_least e2 _ _ _ _ _) rfl rfl (by decide) (by decide) (by decide) (by decide) (K _ _ e4)
theorem lw_c17 (X : LX Z) (hi : i + 6 ≤ Z.2.2.1.2.1) (h : GR σ τ) (K : ∀ σ' τ', GR σ' τ' → LW Z σ' τ' 1407 (LL Z i) []) : LW Z σ τ 705 (LL Z i) [] := by
  have q : opR (f_X11_heads (Z.2.2.1.2.2 (i + 1)) (Z.2.2.1.2.2 (i + 2)) σ) (f_X12_heads (Z.2.2.1.2.2 (i + 1)) (Z.2.2.1.2.2 (i + 2)) τ) := o_heads h
  obtain ⟨⟨v, s'⟩, ⟨v', t'⟩, e1, e2, e3, e4⟩ := q
  dsimp only at e3 e4
  subst e3
  exact lw_two (off := 674) [1, 2] X hi (by decide +kernel) cv_RL_87 cv_RL_90 (ok_X11_heads e1 _ _ _ _ _) (ok_X12_heads e2 _ _ _ _ _) rfl rfl (by decide) (by decide) (by decide) (by decide) (K _ _ e4)
theorem lw_c18 (X : LX Z) (hi : i + 6 ≤ Z.2.2.1.2.1) (h : GR σ τ) (K : ∀ σ' τ', GR σ' τ' → LW Z σ' τ' 1407 (LL Z i) []) : LW Z σ τ 738 (LL Z i) [] := by
  have q : opR (f_X11_said (Z.2.2.1.2.2 (i + 1)) (Z.2.2.1.2.2 (i + 2)) σ) (f_X12_said (Z.2.2.1.2.2 (i + 1)) (Z.2.2.1.2.2 (i + 2)) τ) := o_said h
  obtain ⟨⟨v, s'⟩, ⟨v', t'⟩, e1, e2, e3, e4⟩ := q
  dsimp only at e3 e4
  subst e3
  exact lw_two (off := 641) [1, 2] X hi (by decide +kernel) cv_RL_91 cv_RL_94 (ok_X11_said e1 _ _ _ _ _) (ok_X12_said e2 _ _ _ _ _) rfl rfl (by decide) (by decide) (by decide) (by decide) (K _ _ e4)
theorem lw_c19 (X : LX Z) (hi : i + 6 ≤ Z.2.2.1.2.1) (h : GR σ τ) (K : ∀ σ' τ', GR σ' τ' → LW Z σ' τ' 1407 (LL Z i) []) : LW Z σ τ 771 (LL Z i) [] := by
  have q : opR (f_X11_digit (Z.2.2.1.2.2 (i + 1)) (Z.2.2.1.2.2 (i + 2)) σ) (f_X12_digit (Z.2.2.1.2.2 (i + 1)) (Z.2.2.1.2.2 (i + 2)) τ) := o_digit h
  obtain ⟨⟨v, s'⟩, ⟨v', t'⟩, e1, e2, e3, e4⟩ := q
  dsimp only at e3 e4
  subst e3
  exact lw_two (off := 608) [1, 2] X hi (by decide +kernel) cv_RL_95 cv_RL_98 (ok_X11_digit e1 _ _ _ _ _) (ok_X12_digit e2 _ _ _ _ _) rfl rfl (by decide) (by decide) (by decide) (by decide) (K _ _ e4)
theorem lw_c20 (X : LX Z) (hi : i + 6 ≤ Z.2.2.1.2.1) (h : GR σ τ) (K : ∀ σ' τ', GR σ' τ' → LW Z σ' τ' 1407 (LL Z i) []) : LW Z σ τ 804 (LL Z i) [] := by
  have q : opR (f_X11_call (Z.2.2.1.2.2 (i + 1)) (Z.2.2.1.2.2 (i + 2)) (Z.2.2.1.2.2 (i + 3)) σ) (f_X12_call (Z.2.2.1.2.2 (i + 1)) (Z.2.2.1.2.2 (i + 2)) (Z.2.2.1.2.2 (i + 3)) τ) := o_call h
  obtain ⟨⟨v, s'⟩, ⟨v', t'⟩, e1, e2, e3, e4⟩ := q
  dsimp only at e3 e4
  subst e3
  exact lw_two (off := 565) [1, 2, 3] X hi (by decide +kernel) cv_RL_99 cv_RL_103 (ok_X11_call e1 _ _ _ _ _) (ok_X12_call e2 _ _ _ _ _) rfl rfl (by decide) (by decide) (by decide) (by decide) (K _ _ e4)
theorem lw_c21 (X : LX Z) (hi : i + 6 ≤ Z.2.2.1.2.1) (h : GR σ τ) (K : ∀ σ' τ', GR σ' τ' → LW Z σ' τ' 1407 (LL Z i) []) : LW Z σ τ 847 (LL Z i) [] := by
  have q : opR (f_X11_calls (Z.2.2.1.2.2 (i + 1)) σ) (f_X12_calls (Z.2.2.1.2.2 (i + 1)) τ) := o_calls h
  obtain ⟨⟨v, s'⟩, ⟨v', t'⟩, e1, e2, e3, e4⟩ := q
  dsimp only at e3 e4
  subst e3
  exact lw_two (off := 542) [1] X hi (by decide +kernel) cv_RL_104 cv_RL_107 (ok_X11_calls e1 _ _ _ _ _) (ok_X12_calls e2 _ _ _ _ _) rfl rfl (by decide) (by decide) (by decide) (by decide) (K _ _ e4)
theorem lw_c22 (X : LX Z) (hi : i + 6 ≤ Z.2.2.1.2.1) (h : GR σ τ) (K : ∀ σ' τ', GR σ' τ' → LW Z σ' τ' 1407 (LL Z i) []) : LW Z σ τ 870 (LL Z i) [] := by
  have q : opR (f_X11_hics (Z.2.2.1.2.2 (i + 1)) (Z.2.2.1.2.2 (i + 2)) (Z.2.2.1.2.2 (i + 3)) σ) (f_X12_hics (Z.2.2.1.2.2 (i + 1)) (Z.2.2.1.2.2 (i + 2)) (Z.2.2.1.2.2 (i + 3)) τ) := o_hics h
  obtain ⟨⟨v, s'⟩, ⟨v', t'⟩, e1, e2, e3, e4⟩ := q
  dsimp only at e3 e4
  subst e3
  exact lw_two (off := 499) [1, 2, 3] X hi (by decide +kernel) cv_RL_108 cv_RL_111 (ok_X11_hics e1 _ _ _ _ _) (ok_X12_hics e2 _ _ _ _ _) rfl rfl (by decide) (by decide) (by decide) (by decide) (K _ _ e4)
theorem lw_c23 (X : LX Z) (hi : i + 6 ≤ Z.2.2.1.2.1) (h : GR σ τ) (K : ∀ σ' τ', GR σ' τ' → LW Z σ' τ' 1407 (LL Z i) []) : LW Z σ τ 913 (LL Z i) [] := by
  have q : opR (f_X11_way (Z.2.2.1.2.2 (i + 1)) (Z.2.2.1.2.2 (i + 2)) (Z.2.2.1.2.2 (i + 3)) σ) (f_X12_way (Z.2.2.1.2.2 (i + 1)) (Z.2.2.1.2.2 (i + 2)) (Z.2.2.1.2.2 (i + 3)) τ) := o_way h
  obtain ⟨⟨v, s'⟩, ⟨v', t'⟩, e1, e2, e3, e4⟩ := q
  dsimp only at e3 e4
  subst e3
  exact lw_two (off := 456) [1, 2, 3] X hi (by decide +kernel) cv_RL_112 cv_RL_115 (ok_X11_way e1 _ _ _ _ _) (ok_X12_way e2 _ _ _ _ _) rfl rfl (by decide) (by decide) (by decide) (by decide) (K _ _ e4)
theorem lw_c24 (X : LX Z) (hi : i + 6 ≤ Z.2.2.1.2.1) (h : GR σ τ) (K : ∀ σ' τ', GR σ' τ' → LW Z σ' τ' 1407 (LL Z i) []) : LW Z σ τ 956 (LL Z i) [] := by
  have q : opR (f_X11_gossip (Z.2.2.1.2.2 (i + 1)) (Z.2.2.1.2.2 (i + 2)) (Z.2.2.1.2.2 (i + 3)) σ) (f_X12_gossip (Z.2.2.1.2.2 (i + 1)) (Z.2.2.1.2.2 (i + 2)) (Z.2.2.1.2.2 (i + 3)) τ) := o_gossip h
  obtain ⟨⟨v, s'⟩, ⟨v', t'⟩, e1, e2, e3, e4⟩ := q
  dsimp only at e3 e4
  subst e3
  exact lw_two (off := 413) [1, 2, 3] X hi (by decide +kernel) cv_RL_116 cv_RL_119 (ok_X11_gossip e1 _ _ _ _ _) (ok_X12_gossip e2 _ _ _ _ _) rfl rfl (by decide) (by decide) (by decide) (by decide) (K _ _ e4)
theorem lw_c25 (X : LX Z) (hi : i + 6 ≤ Z.2.2.1.2.1) (h : GR σ τ) (K : ∀ σ' τ', GR σ' τ' → LW Z σ' τ' 1407 (LL Z i) []) : LW Z σ τ 999 (LL Z i) [] := by
  have q : opR (f_X11_term (Z.2.2.1.2.2 (i + 1)) (Z.2.2.1.2.2 (i + 2)) σ) (f_X12_term (Z.2.2.1.2.2 (i + 1)) (Z.2.2.1.2.2 (i + 2)) τ) := o_term h
  obtain ⟨⟨v, s'⟩, ⟨v', t'⟩, e1, e2, e3, e4⟩ := q
  dsimp only at e3 e4
  subst e3
  exact lw_two (off := 380) [1, 2] X hi (by decide +kernel) cv_RL_120 cv_RL_123 (ok_X11_term e1 _ _ _ _ _) (ok_X12_term e2 _ _ _ _ _) rfl rfl (by decide) (by decide) (by decide) (by decide) (K _ _ e4)
theorem lw_c26 (X : LX Z) (hi : i + 6 ≤ Z.2.2.1.2.1) (h : GR σ τ) (K : ∀ σ' τ', GR σ' τ' → LW Z σ' τ' 1407 (LL Z i) []) : LW Z σ τ 1032 (LL Z i) [] := by
  have q : opR (f_X11_terms (Z.2.2.1.2.2 (i + 1)) (Z.2.2.1.2.2 (i + 2)) σ) (f_X12_terms (Z.2.2.1.2.2 (i + 1)) (Z.2.2.1.2.2 (i + 2)) τ) := o_terms h
  obtain ⟨⟨v, s'⟩, ⟨v', t'⟩, e1, e2, e3, e4⟩ := q
  dsimp only at e3 e4
  subst e3
  exact lw_two (off := 347) [1, 2] X hi (by decide +kernel) cv_RL_124 cv_RL_127 (ok_X11_terms e1 _ _ _ _ _) (ok_X12_terms e2 _ _ _ _ _) rfl rfl (by decide) (by decide) (by decide) (by decide) (K _ _ e4)
theorem lw_c27 (X : LX Z) (hi : i + 6 ≤ Z.2.2.1.2.1) (h : GR σ τ) (K : ∀ σ' τ', GR σ' τ' → LW Z σ' τ' 1407 (LL Z i) []) : LW Z σ τ 1065 (LL Z i) [] := by
  have q : opR (f_X11_product (Z.2.2.1.2.2 (i + 1)) σ) (f_X12_product (Z.2.2.1.2.2 (i + 1)) τ) := o_product h
  obtain ⟨⟨v, s'⟩, ⟨v', t'⟩, e1, e2, e3, e4⟩ := q
  dsimp only at e3 e4
  subst e3
  exact lw_two (off := 324) [1] X hi (by decide +kernel) cv_RL_128 cv_RL_131 (ok_X11_product e1 _ _ _ _ _) (ok_X12_product e2 _ _ _ _ _) rfl rfl (by decide) (by decide) (by decide) (by decide) (K _ _ e4)
theorem lw_c28 (X : LX Z) (hi : i + 6 ≤ Z.2.2.1.2.1) (h : GR σ τ) (K : ∀ σ' τ', GR σ' τ' → LW Z σ' τ' 1407 (LL Z i) []) : LW Z σ τ 1088 (LL Z i) [] := by
  have q : opR (f_X11_tongues (Z.2.2.1.2.2 (i + 1)) (Z.2.2.1.2.2 (i + 2)) (Z.2.2.1.2.2 (i + 3)) σ) (f_X12_tongues (Z.2.2.1.2.2 (i + 1)) (Z.2.2.1.2.2 (i + 2)) (Z.2.2.1.2.2 (i + 3)) τ) := o_tongues h
  obtain ⟨⟨v, s'⟩, ⟨v', t'⟩, e1, e2, e3, e4⟩ := q
  dsimp only at e3 e4
  subst e3
  exact lw_two (off := 281) [1, 2, 3] X hi (by decide +kernel) cv_RL_132 cv_RL_135 (ok_X11_tongues e1 _ _ _ _ _) (ok_X12_tongues e2 _ _ _ _ _) rfl rfl (by decide) (by decide) (by decide) (by decide) (K _ _ e4)
theorem lw_c29 (X : LX Z) (hi : i + 6 ≤ Z.2.2.1.2.1) (h : GR σ τ) (K : ∀ σ' τ', GR σ' τ' → LW Z σ' τ' 1407 (LL Z i) []) : LW Z σ τ 1131 (LL Z i) [] := by
  have q : opR (f_X11_squares (Z.2.2.1.2.2 (i + 1)) (Z.2.2.1.2.2 (i + 2)) σ) (f_X12_squares (Z.2.2.1.2.2 (i + 1)) (Z.2.2.1.2.2 (i + 2)) τ) := o_squares h
  obtain ⟨⟨v, s'⟩, ⟨v', t'⟩, e1, e2, e3, e4⟩ := q
  dsimp only at e3 e4
  subst e3
  exact lw_two (off := 248) [1, 2] X hi (by decide +kernel) cv_RL_136 cv_RL_139 (ok_X11_squares e1 _ _ _ _ _) (ok_X12_squares e2 _ _ _ _ _) rfl rfl (by decide) (by decide) (by decide) (by decide) (K _ _ e4)
theorem lw_c30 (X : LX Z) (hi : i + 6 ≤ Z.2.2.1.2.1) (h : GR σ τ) (K : ∀ σ' τ', GR σ' τ' → LW Z σ' τ' 1407 (LL Z i) []) : LW Z σ τ 1164 (LL Z i) [] := by
  have q : opR (f_X11_kin (Z.2.2.1.2.2 (i + 1)) σ) (f_X12_kin (Z.2.2.1.2.2 (i + 1)) τ) := o_kin h
  obtain ⟨⟨v, s'⟩, ⟨v', t'⟩, e1, e2, e3, e4⟩ := q
  dsimp only at e3 e4
  subst e3
  exact lw_two (off := 225) [1] X hi (by decide +kernel) cv_RL_140 cv_RL_143 (ok_X11_kin e1 _ _ _ _ _) (ok_X12_kin e2 _ _ _ _ _) rfl rfl (by decide) (by decide) (by decide) (by decide) (K _ _ e4)
theorem lw_c31 (X : LX Z) (hi : i + 6 ≤ Z.2.2.1.2.1) (h : GR σ τ) (K : ∀ σ' τ', GR σ' τ' → LW Z σ' τ' 1407 (LL Z i) []) : LW Z σ τ 1187 (LL Z i) [] := by
  have q : opR (f_X11_tree (Z.2.2.1.2.2 (i + 1)) (Z.2.2.1.2.2 (i + 2)) (Z.2.2.1.2.2 (i + 3)) σ) (f_X12_tree (Z.2.2.1.2.2 (i + 1)) (Z.2.2.1.2.2 (i + 2)) (Z.2.2.1.2.2 (i + 3)) τ) := o_tree h
  obtain ⟨⟨v, s'⟩, ⟨v', t'⟩, e1, e2, e3, e4⟩ := q
  dsimp only at e3 e4
  subst e3
  exact lw_two (off := 182) [1, 2, 3] X hi (by decide +kernel) cv_RL_144 cv_RL_147 (ok_X11_tree e1 _ _ _ _ _) (ok_X12_tree e2 _ _ _ _ _) rfl rfl (by decide) (by decide) (by decide) (by decide) (K _ _ e4)
theorem lw_c32 (X : LX Z) (hi : i + 6 ≤ Z.2.2.1.2.1) (h : GR σ τ) (K : ∀ σ' τ', GR σ' τ' → LW Z σ' τ' 1407 (LL Z i) []) : LW Z σ τ 1230 (LL Z i) [] := by
  have q : opR (f_X11_step (Z.2.2.1.2.2 (i + 1)) σ) (f_X12_step (Z.2.2.1.2.2 (i + 1)) τ) := o_step h
  obtain ⟨⟨v, s'⟩, ⟨v', t'⟩, e1, e2, e3, e4⟩ := q
  dsimp only at e3 e4
  subst e3
  exact lw_two (off := 159) [1] X hi (by decide +kernel) cv_RL_148 cv_RL_151 (ok_X11_step e1 _ _ _ _ _) (ok_X12_step e2 _ _ _ _ _) rfl rfl (by decide) (by decide) (by decide) (by decide) (K _ _ e4)
theorem lw_c33 (X : LX Z) (hi : i + 6 ≤ Z.2.2.1.2.1) (h : GR σ τ) (K : ∀ σ' τ', GR σ' τ' → LW Z σ' τ' 1407 (LL Z i) []) : LW Z σ τ 1253 (LL Z i) [] := by
  have q : opR (f_X11_stair (Z.2.2.1.2.2 (i + 1)) (Z.2.2.1.2.2 (i + 2)) (Z.2.2.1.2.2 (i + 3)) σ) (f_X12_stair (Z.2.2.1.2.2 (i + 1)) (Z.2.2.1.2.2 (i + 2)) (Z.2.2.1.2.2 (i + 3)) τ) := o_stair h
  obtain ⟨⟨v, s'⟩, ⟨v', t'⟩, e1, e2, e3, e4⟩ := q
  dsimp only at e3 e4
  subst e3
  exact lw_two (off := 116) [1, 2, 3] X hi (by decide +kernel) cv_RL_152 cv_RL_155 (ok_X11_stair e1 _ _ _ _ _) (ok_X12_stair e2 _ _ _ _ _) rfl rfl (by decide) (by decide) (by decide) (by decide) (K _ _ e4)
theorem lw_c34 (X : LX Z) (hi : i + 6 ≤ Z.2.2.1.2.1) (h : GR σ τ) (K : ∀ σ' τ', GR σ' τ' → LW Z σ' τ' 1407 (LL Z i) []) : LW Z σ τ 1296 (LL Z i) [] := by
  have q : opR (f_X11_heap (Z.2.2.1.2.2 (i + 1)) σ) (f_X12_heap (Z.2.2.1.2.2 (i + 1)) τ) := o_heap h
  obtain ⟨⟨v, s'⟩, ⟨v', t'⟩, e1, e2, e3, e4⟩ := q
  dsimp only at e3 e4
  subst e3
  exact lw_two (off := 93) [1] X hi (by decide +kernel) cv_RL_156 cv_RL_159 (ok_X11_heap e1 _ _ _ _ _) (ok_X12_heap e2 _ _ _ _ _) rfl rfl (by decide) (by decide) (by decide) (by decide) (K _ _ e4)
theorem lw_c35 (X : LX Z) (hi : i + 6 ≤ Z.2.2.1.2.1) (h : GR σ τ) (K : ∀ σ' τ', GR σ' τ' → LW Z σ' τ' 1407 (LL Z i) []) : LW Z σ τ 1319 (LL Z i) [] := by
  have q : opR (f_X11_game σ) (f_X12_game τ) := o_game h
  obtain ⟨⟨v, s'⟩, ⟨v', t'⟩, e1, e2, e3, e4⟩ := q
  dsimp only at e3 e4
  subst e3
  exact lw_two (off := 80) [] X hi (by decide +kernel) cv_RL_160 cv_RL_163 (ok_X11_game e1 _ _ _ _ _) (ok_X12_game e2 _ _ _ _ _) rfl rfl (by decide) (by decide) (by decide) (by decide) (K _ _ e4)
theorem lw_c36 (X : LX Z) (hi : i + 6 ≤ Z.2.2.1.2.1) (h : GR σ τ) (K : ∀ σ' τ', GR σ' τ' → LW Z σ' τ' 1407 (LL Z i) []) : LW Z σ τ 1332 (LL Z i) [] := by
  have q : opR (f_X11_undo σ) (f_X12_undo τ) := o_undo h
  obtain ⟨⟨v, s'⟩, ⟨v', t'⟩, e1, e2, e3, e4⟩ := q
  dsimp only at e3 e4
  subst e3
  exact lw_two (off := 67) [] X hi (by decide +kernel) cv_RL_164 cv_RL_168 (ok_X11_undo e1 _ _ _ _ _) (ok_X12_undo e2 _ _ _ _ _) rfl rfl (by decide) (by decide) (by decide) (by decide) (K _ _ e4)
theorem lw_c37 (X : LX Z) (hi : i + 6 ≤ Z.2.2.1.2.1) (h : GR σ τ) (K : ∀ σ' τ', GR σ' τ' → LW Z σ' τ' 1407 (LL Z i) []) : LW Z σ τ 1345 (LL Z i) [] := by
  have hx : (if Z.2.2.1.2.2 (i + 1) = 0 then (0 : Int32) else 1) = 0 ∨ (if Z.2.2.1.2.2 (i + 1) = 0 then (0 : Int32) else 1) = 1 := by
    by_cases q : Z.2.2.1.2.2 (i + 1) = 0
    · rw [if_pos q]; exact Or.inl rfl
    · rw [if_neg q]; exact Or.inr rfl
  have q : opR (f_X11_image (if Z.2.2.1.2.2 (i + 1) = 0 then (0 : Int32) else 1) σ) (f_X12_image (if Z.2.2.1.2.2 (i + 1) = 0 then (0 : Int32) else 1) τ) := o_image hx h
  obtain ⟨⟨v, s'⟩, ⟨v', t'⟩, e1, e2, e3, e4⟩ := q
  dsimp only at e3 e4
  subst e3
  refine lw_aload (k := 1) X (by decide +kernel : decode code 1345 = .ok (.aload_n 1, 1)) rfl ?_
  refine lw_args X hi [1] 1346 _ (by decide +kernel) ?_
  refine lw_bit (pc := 1351) X (by decide +kernel) ?_
  refine lw_call0 (st := []) X (by decide +kernel : decode code 1359 = .ok (.invokevirtual 169, 3)) cv_RL_169 (ok_X11_image e1 _ _ _ _ _) rfl (by decide) (by decide) rfl rfl (by decide) ?_
  refine lw_aload (k := 2) X (by decide +kernel : decode code 1362 = .ok (.aload_n 2, 1)) rfl ?_
  refine lw_args X hi [1] 1363 _ (by decide +kernel) ?_
  refine lw_bit (pc := 1368) X (by decide +kernel) ?_
  refine lw_call1 (st := [.int v]) X (by decide +kernel : decode code 1376 = .ok (.invokevirtual 173, 3)) cv_RL_173 (ok_X12_image e2 _ _ _ _ _) rfl (by decide) (by decide) rfl rfl (by simp [Value.category]) ?_
  exact lw_icmpeq (tgt := 1407) X (by decide +kernel : decode code 1379 = .ok (.if_icmp .eq 28, 3)) (by decide) (K _ _ e4)
theorem lw_c38 (X : LX Z) (hi : i + 6 ≤ Z.2.2.1.2.1) (h : GR σ τ) (K : ∀ σ' τ', GR σ' τ' → LW Z σ' τ' 1407 (LL Z i) []) : LW Z σ τ 1384 (LL Z i) [] := by
  have q : opR (f_X11_look (Z.2.2.1.2.2 (i + 1)) σ) (f_X12_look (Z.2.2.1.2.2 (i + 1)) τ) := o_look h
  obtain ⟨⟨v, s'⟩, ⟨v', t'⟩, e1, e2, e3, e4⟩ := q
  dsimp only at e3 e4
  subst e3
  exact lw_two (off := 5) [1] X hi (by decide +kernel) cv_RL_174 cv_RL_177 (ok_X11_look e1 _ _ _ _ _) (ok_X12_look e2 _ _ _ _ _) rfl rfl (by decide) (by decide) (by decide) (by decide) (K _ _ e4)
end LWC
