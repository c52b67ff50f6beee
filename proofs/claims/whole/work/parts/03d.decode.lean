theorem dX12_floor_116 : decode cX12_floor 116 = .ok (.aload_n 0, 1) := by decide +kernel
theorem dX12_floor_117 : decode cX12_floor 117 = .ok (.getfield 105, 3) := by decide +kernel
theorem dX12_floor_120 : decode cX12_floor 120 = .ok (.if_icmp .ge 71, 3) := by decide +kernel
theorem dX12_floor_123 : decode cX12_floor 123 = .ok (.aload_n 0, 1) := by decide +kernel
theorem dX12_floor_124 : decode cX12_floor 124 = .ok (.getfield 16, 3) := by decide +kernel
theorem dX12_floor_127 : decode cX12_floor 127 = .ok (.iload_n 1, 1) := by decide +kernel
theorem dX12_floor_128 : decode cX12_floor 128 = .ok (.aload_n 0, 1) := by decide +kernel
theorem dX12_floor_129 : decode cX12_floor 129 = .ok (.getfield 34, 3) := by decide +kernel
theorem dX12_floor_132 : decode cX12_floor 132 = .ok (.iconst 4, 1) := by decide +kernel
theorem dX12_floor_133 : decode cX12_floor 133 = .ok (.iload_n 1, 1) := by decide +kernel
theorem dX12_floor_134 : decode cX12_floor 134 = .ok (.imul, 1) := by decide +kernel
theorem dX12_floor_135 : decode cX12_floor 135 = .ok (.iaload, 1) := by decide +kernel
theorem dX12_floor_136 : decode cX12_floor 136 = .ok (.iastore, 1) := by decide +kernel
theorem dX12_floor_137 : decode cX12_floor 137 = .ok (.aload_n 0, 1) := by decide +kernel
theorem dX12_floor_138 : decode cX12_floor 138 = .ok (.getfield 19, 3) := by decide +kernel
theorem dX12_floor_141 : decode cX12_floor 141 = .ok (.iload_n 1, 1) := by decide +kernel
theorem dX12_floor_142 : decode cX12_floor 142 = .ok (.aload_n 0, 1) := by decide +kernel
theorem dX12_floor_143 : decode cX12_floor 143 = .ok (.getfield 34, 3) := by decide +kernel
theorem dX12_floor_146 : decode cX12_floor 146 = .ok (.iconst 4, 1) := by decide +kernel
theorem dX12_floor_147 : decode cX12_floor 147 = .ok (.iload_n 1, 1) := by decide +kernel
theorem dX12_floor_148 : decode cX12_floor 148 = .ok (.imul, 1) := by decide +kernel
theorem dX12_floor_149 : decode cX12_floor 149 = .ok (.iconst 1, 1) := by decide +kernel
theorem dX12_floor_150 : decode cX12_floor 150 = .ok (.iadd, 1) := by decide +kernel
theorem dX12_floor_151 : decode cX12_floor 151 = .ok (.iaload, 1) := by decide +kernel
theorem dX12_floor_152 : decode cX12_floor 152 = .ok (.iastore, 1) := by decide +kernel
theorem dX12_floor_153 : decode cX12_floor 153 = .ok (.aload_n 0, 1) := by decide +kernel
theorem dX12_floor_154 : decode cX12_floor 154 = .ok (.getfield 22, 3) := by decide +kernel
theorem dX12_floor_157 : decode cX12_floor 157 = .ok (.iload_n 1, 1) := by decide +kernel
theorem dX12_floor_158 : decode cX12_floor 158 = .ok (.aload_n 0, 1) := by decide +kernel
theorem dX12_floor_159 : decode cX12_floor 159 = .ok (.getfield 34, 3) := by decide +kernel
theorem dX12_floor_162 : decode cX12_floor 162 = .ok (.iconst 4, 1) := by decide +kernel
theorem dX12_floor_163 : decode cX12_floor 163 = .ok (.iload_n 1, 1) := by decide +kernel
theorem dX12_floor_164 : decode cX12_floor 164 = .ok (.imul, 1) := by decide +kernel
theorem dX12_floor_165 : decode cX12_floor 165 = .ok (.iconst 2, 1) := by decide +kernel
theorem dX12_floor_166 : decode cX12_floor 166 = .ok (.iadd, 1) := by decide +kernel
theorem dX12_floor_167 : decode cX12_floor 167 = .ok (.iaload, 1) := by decide +kernel
theorem dX12_floor_168 : decode cX12_floor 168 = .ok (.iastore, 1) := by decide +kernel
theorem dX12_floor_169 : decode cX12_floor 169 = .ok (.aload_n 0, 1) := by decide +kernel
theorem dX12_floor_170 : decode cX12_floor 170 = .ok (.getfield 25, 3) := by decide +kernel
theorem dX12_floor_173 : decode cX12_floor 173 = .ok (.iload_n 1, 1) := by decide +kernel
theorem dX12_floor_174 : decode cX12_floor 174 = .ok (.aload_n 0, 1) := by decide +kernel
theorem dX12_floor_175 : decode cX12_floor 175 = .ok (.getfield 34, 3) := by decide +kernel
theorem dX12_floor_178 : decode cX12_floor 178 = .ok (.iconst 4, 1) := by decide +kernel
theorem dX12_floor_179 : decode cX12_floor 179 = .ok (.iload_n 1, 1) := by decide +kernel
theorem dX12_floor_180 : decode cX12_floor 180 = .ok (.imul, 1) := by decide +kernel
theorem dX12_floor_181 : decode cX12_floor 181 = .ok (.iconst 3, 1) := by decide +kernel
theorem dX12_floor_182 : decode cX12_floor 182 = .ok (.iadd, 1) := by decide +kernel
theorem dX12_floor_183 : decode cX12_floor 183 = .ok (.iaload, 1) := by decide +kernel
theorem dX12_floor_184 : decode cX12_floor 184 = .ok (.iastore, 1) := by decide +kernel
theorem dX12_floor_185 : decode cX12_floor 185 = .ok (.iinc 1 1, 3) := by decide +kernel
theorem dX12_floor_188 : decode cX12_floor 188 = .ok (.goto (-73), 3) := by decide +kernel
theorem dX12_floor_191 : decode cX12_floor 191 = .ok (.aload_n 0, 1) := by decide +kernel
theorem dX12_floor_192 : decode cX12_floor 192 = .ok (.getfield 25, 3) := by decide +kernel
theorem dX12_floor_195 : decode cX12_floor 195 = .ok (.bipush 7, 2) := by decide +kernel
theorem dX12_floor_197 : decode cX12_floor 197 = .ok (.bipush (-9), 2) := by decide +kernel
theorem dX12_floor_199 : decode cX12_floor 199 = .ok (.iastore, 1) := by decide +kernel
theorem dX12_floor_200 : decode cX12_floor 200 = .ok (.aload_n 0, 1) := by decide +kernel
theorem dX12_floor_201 : decode cX12_floor 201 = .ok (.iconst 0, 1) := by decide +kernel
theorem dX12_floor_202 : decode cX12_floor 202 = .ok (.putfield 108, 3) := by decide +kernel
theorem dX12_floor_205 : decode cX12_floor 205 = .ok (.aload_n 0, 1) := by decide +kernel
theorem dX12_floor_206 : decode cX12_floor 206 = .ok (.getfield 55, 3) := by decide +kernel
theorem dX12_floor_209 : decode cX12_floor 209 = .ok (.iconst 0, 1) := by decide +kernel
theorem dX12_floor_210 : decode cX12_floor 210 = .ok (.iconst 0, 1) := by decide +kernel
theorem dX12_floor_211 : decode cX12_floor 211 = .ok (.bastore, 1) := by decide +kernel
theorem dX12_floor_212 : decode cX12_floor 212 = .ok (.aload_n 0, 1) := by decide +kernel
theorem dX12_floor_213 : decode cX12_floor 213 = .ok (.getfield 55, 3) := by decide +kernel
theorem dX12_floor_216 : decode cX12_floor 216 = .ok (.iconst 1, 1) := by decide +kernel
theorem dX12_floor_217 : decode cX12_floor 217 = .ok (.iconst 0, 1) := by decide +kernel
theorem dX12_floor_218 : decode cX12_floor 218 = .ok (.bastore, 1) := by decide +kernel
theorem dX12_floor_219 : decode cX12_floor 219 = .ok (.bipush 100, 2) := by decide +kernel
theorem dX12_floor_221 : decode cX12_floor 221 = .ok (.aload_n 0, 1) := by decide +kernel
theorem dX12_floor_222 : decode cX12_floor 222 = .ok (.getfield 99, 3) := by decide +kernel
theorem dX12_floor_225 : decode cX12_floor 225 = .ok (.imul, 1) := by decide +kernel
theorem dX12_floor_226 : decode cX12_floor 226 = .ok (.bipush 10, 2) := by decide +kernel
theorem dX12_floor_228 : decode cX12_floor 228 = .ok (.aload_n 0, 1) := by decide +kernel
theorem dX12_floor_229 : decode cX12_floor 229 = .ok (.getfield 102, 3) := by decide +kernel
theorem dX12_floor_232 : decode cX12_floor 232 = .ok (.imul, 1) := by decide +kernel
theorem dX12_floor_233 : decode cX12_floor 233 = .ok (.iadd, 1) := by decide +kernel
theorem dX12_floor_234 : decode cX12_floor 234 = .ok (.aload_n 0, 1) := by decide +kernel
theorem dX12_floor_235 : decode cX12_floor 235 = .ok (.getfield 105, 3) := by decide +kernel
theorem dX12_floor_238 : decode cX12_floor 238 = .ok (.iadd, 1) := by decide +kernel
theorem dX12_floor_239 : decode cX12_floor 239 = .ok (.ireturn, 1) := by decide +kernel
set_option maxRecDepth 20000 in
theorem ggX12_isPerson_X12_in : GoodIn wsX12_isPerson wsX12_in := goodIn_r _ [5] (by decide +kernel) (by decide +kernel)
set_option maxRecDepth 20000 in
theorem gX12_isPerson_X12_in : GoodIn wsX12_isPerson (va_wsS RX12 64 yX12_in wsX12_in) := goodIn_app (goodIn_of _ (by decide +kernel)) ggX12_isPerson_X12_in
theorem dX12_isPerson_0 : decode cX12_isPerson 0 = .ok (.iload_n 1, 1) := by decide +kernel
theorem dX12_isPerson_1 : decode cX12_isPerson 1 = .ok (.i2l, 1) := by decide +kernel
theorem dX12_isPerson_2 : decode cX12_isPerson 2 = .ok (.lconst 0, 1) := by decide +kernel
theorem dX12_isPerson_3 : decode cX12_isPerson 3 = .ok (.aload_n 0, 1) := by decide +kernel
theorem dX12_isPerson_4 : decode cX12_isPerson 4 = .ok (.getfield 99, 3) := by decide +kernel
theorem dX12_isPerson_7 : decode cX12_isPerson 7 = .ok (.iconst 1, 1) := by decide +kernel
theorem dX12_isPerson_8 : decode cX12_isPerson 8 = .ok (.isub, 1) := by decide +kernel
theorem dX12_isPerson_9 : decode cX12_isPerson 9 = .ok (.i2l, 1) := by decide +kernel
theorem dX12_isPerson_10 : decode cX12_isPerson 10 = .ok (.invokestatic 64, 3) := by decide +kernel
theorem dX12_isPerson_13 : decode cX12_isPerson 13 = .ok (.ireturn, 1) := by decide +kernel
set_option maxRecDepth 20000 in
theorem ggX12_isGrain_X12_in : GoodIn wsX12_isGrain wsX12_in := goodIn_r _ [5] (by decide +kernel) (by decide +kernel)
set_option maxRecDepth 20000 in
theorem gX12_isGrain_X12_in : GoodIn wsX12_isGrain (va_wsS RX12 64 yX12_in wsX12_in) := goodIn_app (goodIn_of _ (by decide +kernel)) ggX12_isGrain_X12_in
theorem dX12_isGrain_0 : decode cX12_isGrain 0 = .ok (.iload_n 1, 1) := by decide +kernel
theorem dX12_isGrain_1 : decode cX12_isGrain 1 = .ok (.i2l, 1) := by decide +kernel
theorem dX12_isGrain_2 : decode cX12_isGrain 2 = .ok (.lconst 0, 1) := by decide +kernel
theorem dX12_isGrain_3 : decode cX12_isGrain 3 = .ok (.aload_n 0, 1) := by decide +kernel
theorem dX12_isGrain_4 : decode cX12_isGrain 4 = .ok (.getfield 105, 3) := by decide +kernel
theorem dX12_isGrain_7 : decode cX12_isGrain 7 = .ok (.iconst 1, 1) := by decide +kernel
theorem dX12_isGrain_8 : decode cX12_isGrain 8 = .ok (.isub, 1) := by decide +kernel
theorem dX12_isGrain_9 : decode cX12_isGrain 9 = .ok (.i2l, 1) := by decide +kernel
theorem dX12_isGrain_10 : decode cX12_isGrain 10 = .ok (.invokestatic 64, 3) := by decide +kernel
theorem dX12_isGrain_13 : decode cX12_isGrain 13 = .ok (.ireturn, 1) := by decide +kernel
theorem dX12_windOn_0 : decode cX12_windOn 0 = .ok (.aload_n 0, 1) := by decide +kernel
theorem dX12_windOn_1 : decode cX12_windOn 1 = .ok (.getfield 102, 3) := by decide +kernel
theorem dX12_windOn_4 : decode cX12_windOn 4 = .ok (.ifCond .ne 7, 3) := by decide +kernel
theorem dX12_windOn_7 : decode cX12_windOn 7 = .ok (.iconst 0, 1) := by decide +kernel
theorem dX12_windOn_8 : decode cX12_windOn 8 = .ok (.goto 25, 3) := by decide +kernel
theorem dX12_windOn_11 : decode cX12_windOn 11 = .ok (.aload_n 0, 1) := by decide +kernel
theorem dX12_windOn_12 : decode cX12_windOn 12 = .ok (.getfield 13, 3) := by decide +kernel
theorem dX12_windOn_15 : decode cX12_windOn 15 = .ok (.aload_n 0, 1) := by decide +kernel
theorem dX12_windOn_16 : decode cX12_windOn 16 = .ok (.getfield 25, 3) := by decide +kernel
theorem dX12_windOn_19 : decode cX12_windOn 19 = .ok (.bipush 9, 2) := by decide +kernel
theorem dX12_windOn_21 : decode cX12_windOn 21 = .ok (.iload_n 1, 1) := by decide +kernel
theorem dX12_windOn_22 : decode cX12_windOn 22 = .ok (.imul, 1) := by decide +kernel
theorem dX12_windOn_23 : decode cX12_windOn 23 = .ok (.bipush 8, 2) := by decide +kernel
theorem dX12_windOn_25 : decode cX12_windOn 25 = .ok (.iadd, 1) := by decide +kernel
theorem dX12_windOn_26 : decode cX12_windOn 26 = .ok (.iaload, 1) := by decide +kernel
theorem dX12_windOn_27 : decode cX12_windOn 27 = .ok (.aload_n 0, 1) := by decide +kernel
theorem dX12_windOn_28 : decode cX12_windOn 28 = .ok (.getfield 102, 3) := by decide +kernel
theorem dX12_windOn_31 : decode cX12_windOn 31 = .ok (.irem, 1) := by decide +kernel
theorem dX12_windOn_32 : decode cX12_windOn 32 = .ok (.iaload, 1) := by decide +kernel
theorem dX12_windOn_33 : decode cX12_windOn 33 = .ok (.ireturn, 1) := by decide +kernel
set_option maxRecDepth 20000 in
theorem ggX12_liftAt_X12_windOn : GoodIn wsX12_liftAt wsX12_windOn := goodIn_r _ [7, 8, 9, 1, 10, 11, 12, 13, 14, 15, 16, 17, 18, 19, 20, 21, 22, 23, 24, 25, 26, 27, 28, 29, 30, 31, 32, 33, 34, 35, 36, 37, 38, 39] (by decide +kernel) (by decide +kernel)
set_option maxRecDepth 20000 in
theorem gX12_liftAt_X12_windOn : GoodIn wsX12_liftAt (wsV RX12 111 RX12 yX12_windOn wsX12_windOn) := goodIn_app (goodIn_of _ (by decide +kernel)) ggX12_liftAt_X12_windOn
theorem dX12_liftAt_0 : decode cX12_liftAt 0 = .ok (.aload_n 0, 1) := by decide +kernel
theorem dX12_liftAt_1 : decode cX12_liftAt 1 = .ok (.iload_n 1, 1) := by decide +kernel
theorem dX12_liftAt_2 : decode cX12_liftAt 2 = .ok (.invokevirtual 111, 3) := by decide +kernel
theorem dX12_liftAt_5 : decode cX12_liftAt 5 = .ok (.iload_n 3, 1) := by decide +kernel
theorem dX12_liftAt_6 : decode cX12_liftAt 6 = .ok (.iadd, 1) := by decide +kernel
theorem dX12_liftAt_7 : decode cX12_liftAt 7 = .ok (.aload_n 0, 1) := by decide +kernel
theorem dX12_liftAt_8 : decode cX12_liftAt 8 = .ok (.getfield 25, 3) := by decide +kernel
theorem dX12_liftAt_11 : decode cX12_liftAt 11 = .ok (.bipush 9, 2) := by decide +kernel
theorem dX12_liftAt_13 : decode cX12_liftAt 13 = .ok (.iload_n 1, 1) := by decide +kernel
theorem dX12_liftAt_14 : decode cX12_liftAt 14 = .ok (.imul, 1) := by decide +kernel
theorem dX12_liftAt_15 : decode cX12_liftAt 15 = .ok (.bipush 7, 2) := by decide +kernel
theorem dX12_liftAt_17 : decode cX12_liftAt 17 = .ok (.iadd, 1) := by decide +kernel
theorem dX12_liftAt_18 : decode cX12_liftAt 18 = .ok (.iaload, 1) := by decide +kernel
theorem dX12_liftAt_19 : decode cX12_liftAt 19 = .ok (.iload_n 2, 1) := by decide +kernel
theorem dX12_liftAt_20 : decode cX12_liftAt 20 = .ok (.if_icmp .ne 7, 3) := by decide +kernel
theorem dX12_liftAt_23 : decode cX12_liftAt 23 = .ok (.iconst 2, 1) := by decide +kernel
theorem dX12_liftAt_24 : decode cX12_liftAt 24 = .ok (.goto 4, 3) := by decide +kernel
theorem dX12_liftAt_27 : decode cX12_liftAt 27 = .ok (.iconst 0, 1) := by decide +kernel
theorem dX12_liftAt_28 : decode cX12_liftAt 28 = .ok (.iadd, 1) := by decide +kernel
theorem dX12_liftAt_29 : decode cX12_liftAt 29 = .ok (.aload_n 0, 1) := by decide +kernel
theorem dX12_liftAt_30 : decode cX12_liftAt 30 = .ok (.getfield 7, 3) := by decide +kernel
theorem dX12_liftAt_33 : decode cX12_liftAt 33 = .ok (.iload_n 2, 1) := by decide +kernel
theorem dX12_liftAt_34 : decode cX12_liftAt 34 = .ok (.iaload, 1) := by decide +kernel
theorem dX12_liftAt_35 : decode cX12_liftAt 35 = .ok (.iconst 1, 1) := by decide +kernel
theorem dX12_liftAt_36 : decode cX12_liftAt 36 = .ok (.if_icmp .ne 7, 3) := by decide +kernel
theorem dX12_liftAt_39 : decode cX12_liftAt 39 = .ok (.iconst 1, 1) := by decide +kernel
theorem dX12_liftAt_40 : decode cX12_liftAt 40 = .ok (.goto 4, 3) := by decide +kernel
theorem dX12_liftAt_43 : decode cX12_liftAt 43 = .ok (.iconst 0, 1) := by decide +kernel
theorem dX12_liftAt_44 : decode cX12_liftAt 44 = .ok (.iadd, 1) := by decide +kernel
theorem dX12_liftAt_45 : decode cX12_liftAt 45 = .ok (.ireturn, 1) := by decide +kernel
theorem dX12_liftOf_0 : decode cX12_liftOf 0 = .ok (.iload_n 1, 1) := by decide +kernel
theorem dX12_liftOf_1 : decode cX12_liftOf 1 = .ok (.iconst 1, 1) := by decide +kernel
theorem dX12_liftOf_2 : decode cX12_liftOf 2 = .ok (.if_icmp .ne 9, 3) := by decide +kernel
theorem dX12_liftOf_5 : decode cX12_liftOf 5 = .ok (.iload_n 0, 1) := by decide +kernel
theorem dX12_liftOf_6 : decode cX12_liftOf 6 = .ok (.iconst 2, 1) := by decide +kernel
theorem dX12_liftOf_7 : decode cX12_liftOf 7 = .ok (.iadd, 1) := by decide +kernel
theorem dX12_liftOf_8 : decode cX12_liftOf 8 = .ok (.goto 15, 3) := by decide +kernel
theorem dX12_liftOf_11 : decode cX12_liftOf 11 = .ok (.iload_n 1, 1) := by decide +kernel
theorem dX12_liftOf_12 : decode cX12_liftOf 12 = .ok (.iconst 3, 1) := by decide +kernel
theorem dX12_liftOf_13 : decode cX12_liftOf 13 = .ok (.if_icmp .ne 9, 3) := by decide +kernel
theorem dX12_liftOf_16 : decode cX12_liftOf 16 = .ok (.iload_n 0, 1) := by decide +kernel
theorem dX12_liftOf_17 : decode cX12_liftOf 17 = .ok (.iconst 2, 1) := by decide +kernel
theorem dX12_liftOf_18 : decode cX12_liftOf 18 = .ok (.idiv, 1) := by decide +kernel
theorem dX12_liftOf_19 : decode cX12_liftOf 19 = .ok (.goto 4, 3) := by decide +kernel
theorem dX12_liftOf_22 : decode cX12_liftOf 22 = .ok (.iload_n 0, 1) := by decide +kernel
theorem dX12_liftOf_23 : decode cX12_liftOf 23 = .ok (.ireturn, 1) := by decide +kernel
set_option maxRecDepth 20000 in
theorem ggX12_flight_X12_liftOf : GoodIn wsX12_flight wsX12_liftOf := goodIn_r _ [4] (by decide +kernel) (by decide +kernel)
set_option maxRecDepth 20000 in
theorem gX12_flight_X12_liftOf : GoodIn wsX12_flight (va_wsS RX12 115 yX12_liftOf wsX12_liftOf) := goodIn_app (goodIn_of _ (by decide +kernel)) ggX12_flight_X12_liftOf
theorem dX12_flight_0 : decode cX12_flight 0 = .ok (.iload_n 0, 1) := by decide +kernel
theorem dX12_flight_1 : decode cX12_flight 1 = .ok (.iload_n 1, 1) := by decide +kernel
theorem dX12_flight_2 : decode cX12_flight 2 = .ok (.invokestatic 115, 3) := by decide +kernel
theorem dX12_flight_5 : decode cX12_flight 5 = .ok (.iload_n 2, 1) := by decide +kernel
theorem dX12_flight_6 : decode cX12_flight 6 = .ok (.isub, 1) := by decide +kernel
theorem dX12_flight_7 : decode cX12_flight 7 = .ok (.istore_n 3, 1) := by decide +kernel
theorem dX12_flight_8 : decode cX12_flight 8 = .ok (.iload_n 1, 1) := by decide +kernel
theorem dX12_flight_9 : decode cX12_flight 9 = .ok (.iconst 2, 1) := by decide +kernel
theorem dX12_flight_10 : decode cX12_flight 10 = .ok (.if_icmp .eq 7, 3) := by decide +kernel
theorem dX12_flight_13 : decode cX12_flight 13 = .ok (.iload_n 3, 1) := by decide +kernel
theorem dX12_flight_14 : decode cX12_flight 14 = .ok (.ifCond .ge 7, 3) := by decide +kernel
theorem dX12_flight_17 : decode cX12_flight 17 = .ok (.iconst 0, 1) := by decide +kernel
theorem dX12_flight_18 : decode cX12_flight 18 = .ok (.goto 17, 3) := by decide +kernel
theorem dX12_flight_21 : decode cX12_flight 21 = .ok (.iload_n 3, 1) := by decide +kernel
theorem dX12_flight_22 : decode cX12_flight 22 = .ok (.iconst 3, 1) := by decide +kernel
theorem dX12_flight_23 : decode cX12_flight 23 = .ok (.idiv, 1) := by decide +kernel
theorem dX12_flight_24 : decode cX12_flight 24 = .ok (.iload_n 1, 1) := by decide +kernel
theorem dX12_flight_25 : decode cX12_flight 25 = .ok (.iconst 1, 1) := by decide +kernel
theorem dX12_flight_26 : decode cX12_flight 26 = .ok (.if_icmp .ne 7, 3) := by decide +kernel
theorem dX12_flight_29 : decode cX12_flight 29 = .ok (.iconst 2, 1) := by decide +kernel
theorem dX12_flight_30 : decode cX12_flight 30 = .ok (.goto 4, 3) := by decide +kernel
theorem dX12_flight_33 : decode cX12_flight 33 = .ok (.iconst 1, 1) := by decide +kernel
theorem dX12_flight_34 : decode cX12_flight 34 = .ok (.iadd, 1) := by decide +kernel
theorem dX12_flight_35 : decode cX12_flight 35 = .ok (.ireturn, 1) := by decide +kernel
theorem dX12_lies_0 : decode cX12_lies 0 = .ok (.aload_n 0, 1) := by decide +kernel
theorem dX12_lies_1 : decode cX12_lies 1 = .ok (.getfield 25, 3) := by decide +kernel
theorem dX12_lies_4 : decode cX12_lies 4 = .ok (.bipush 9, 2) := by decide +kernel
theorem dX12_lies_6 : decode cX12_lies 6 = .ok (.iload_n 1, 1) := by decide +kernel
theorem dX12_lies_7 : decode cX12_lies 7 = .ok (.imul, 1) := by decide +kernel
theorem dX12_lies_8 : decode cX12_lies 8 = .ok (.iload_n 2, 1) := by decide +kernel
theorem dX12_lies_9 : decode cX12_lies 9 = .ok (.iadd, 1) := by decide +kernel
theorem dX12_lies_10 : decode cX12_lies 10 = .ok (.iaload, 1) := by decide +kernel
theorem dX12_lies_11 : decode cX12_lies 11 = .ok (.aload_n 0, 1) := by decide +kernel
theorem dX12_lies_12 : decode cX12_lies 12 = .ok (.getfield 99, 3) := by decide +kernel
theorem dX12_lies_15 : decode cX12_lies 15 = .ok (.if_icmp .ge 7, 3) := by decide +kernel
theorem dX12_lies_18 : decode cX12_lies 18 = .ok (.iconst 1, 1) := by decide +kernel
theorem dX12_lies_19 : decode cX12_lies 19 = .ok (.goto 4, 3) := by decide +kernel
theorem dX12_lies_22 : decode cX12_lies 22 = .ok (.iconst 0, 1) := by decide +kernel
theorem dX12_lies_23 : decode cX12_lies 23 = .ok (.ireturn, 1) := by decide +kernel
set_option maxRecDepth 20000 in
theorem ggX12_flies_X12_flight : GoodIn wsX12_flies wsX12_flight := goodIn_r _ [9, 10, 11, 8, 12] (by decide +kernel) (by decide +kernel)
set_option maxRecDepth 20000 in
theorem gX12_flies_X12_flight : GoodIn wsX12_flies (va_wsS RX12 118 yX12_flight wsX12_flight) := goodIn_app (goodIn_of _ (by decide +kernel)) ggX12_flies_X12_flight
theorem dX12_flies_0 : decode cX12_flies 0 = .ok (.aload_n 0, 1) := by decide +kernel
theorem dX12_flies_1 : decode cX12_flies 1 = .ok (.getfield 7, 3) := by decide +kernel
theorem dX12_flies_4 : decode cX12_flies 4 = .ok (.aload_n 0, 1) := by decide +kernel
theorem dX12_flies_5 : decode cX12_flies 5 = .ok (.getfield 22, 3) := by decide +kernel
theorem dX12_flies_8 : decode cX12_flies 8 = .ok (.iload_n 2, 1) := by decide +kernel
theorem dX12_flies_9 : decode cX12_flies 9 = .ok (.iaload, 1) := by decide +kernel
theorem dX12_flies_10 : decode cX12_flies 10 = .ok (.iaload, 1) := by decide +kernel
theorem dX12_flies_11 : decode cX12_flies 11 = .ok (.iconst 3, 1) := by decide +kernel
theorem dX12_flies_12 : decode cX12_flies 12 = .ok (.if_icmp .ne 27, 3) := by decide +kernel
theorem dX12_flies_15 : decode cX12_flies 15 = .ok (.aload_n 0, 1) := by decide +kernel
theorem dX12_flies_16 : decode cX12_flies 16 = .ok (.getfield 25, 3) := by decide +kernel
theorem dX12_flies_19 : decode cX12_flies 19 = .ok (.bipush 9, 2) := by decide +kernel
theorem dX12_flies_21 : decode cX12_flies 21 = .ok (.iload_n 1, 1) := by decide +kernel
theorem dX12_flies_22 : decode cX12_flies 22 = .ok (.imul, 1) := by decide +kernel
theorem dX12_flies_23 : decode cX12_flies 23 = .ok (.iload_n 2, 1) := by decide +kernel
theorem dX12_flies_24 : decode cX12_flies 24 = .ok (.iadd, 1) := by decide +kernel
theorem dX12_flies_25 : decode cX12_flies 25 = .ok (.iaload, 1) := by decide +kernel
theorem dX12_flies_26 : decode cX12_flies 26 = .ok (.aload_n 0, 1) := by decide +kernel
theorem dX12_flies_27 : decode cX12_flies 27 = .ok (.getfield 22, 3) := by decide +kernel
theorem dX12_flies_30 : decode cX12_flies 30 = .ok (.iload_n 2, 1) := by decide +kernel
theorem dX12_flies_31 : decode cX12_flies 31 = .ok (.iaload, 1) := by decide +kernel
theorem dX12_flies_32 : decode cX12_flies 32 = .ok (.if_icmp .ne 7, 3) := by decide +kernel
theorem dX12_flies_35 : decode cX12_flies 35 = .ok (.iconst 1, 1) := by decide +kernel
theorem dX12_flies_36 : decode cX12_flies 36 = .ok (.goto 4, 3) := by decide +kernel
theorem dX12_flies_39 : decode cX12_flies 39 = .ok (.iconst 0, 1) := by decide +kernel
theorem dX12_flies_40 : decode cX12_flies 40 = .ok (.istore 4, 2) := by decide +kernel
theorem dX12_flies_42 : decode cX12_flies 42 = .ok (.iload 4, 2) := by decide +kernel
theorem dX12_flies_44 : decode cX12_flies 44 = .ok (.ifCond .eq 7, 3) := by decide +kernel
theorem dX12_flies_47 : decode cX12_flies 47 = .ok (.iconst 0, 1) := by decide +kernel
theorem dX12_flies_48 : decode cX12_flies 48 = .ok (.goto 19, 3) := by decide +kernel
theorem dX12_flies_51 : decode cX12_flies 51 = .ok (.iload_n 3, 1) := by decide +kernel
theorem dX12_flies_52 : decode cX12_flies 52 = .ok (.aload_n 0, 1) := by decide +kernel
theorem dX12_flies_53 : decode cX12_flies 53 = .ok (.getfield 19, 3) := by decide +kernel
theorem dX12_flies_56 : decode cX12_flies 56 = .ok (.iload_n 2, 1) := by decide +kernel
theorem dX12_flies_57 : decode cX12_flies 57 = .ok (.iaload, 1) := by decide +kernel
theorem dX12_flies_58 : decode cX12_flies 58 = .ok (.aload_n 0, 1) := by decide +kernel
theorem dX12_flies_59 : decode cX12_flies 59 = .ok (.getfield 16, 3) := by decide +kernel
theorem dX12_flies_62 : decode cX12_flies 62 = .ok (.iload_n 2, 1) := by decide +kernel
theorem dX12_flies_63 : decode cX12_flies 63 = .ok (.iaload, 1) := by decide +kernel
theorem dX12_flies_64 : decode cX12_flies 64 = .ok (.invokestatic 118, 3) := by decide +kernel
theorem dX12_flies_67 : decode cX12_flies 67 = .ok (.ireturn, 1) := by decide +kernel
set_option maxRecDepth 20000 in
theorem ggX12_goesTo_X12_liftAt : GoodIn wsX12_goesTo wsX12_liftAt := goodIn_r _ [9, 1, 3, 10, 11, 12, 8, 13, 14, 15, 28, 29, 30, 31, 32, 33, 34, 35, 36, 37, 38, 39, 40, 41, 42, 43, 44, 45, 46, 47, 48, 49, 50, 51, 52, 53, 54, 55, 56, 57] (by decide +kernel) (by decide +kernel)
set_option maxRecDepth 20000 in
theorem gX12_goesTo_X12_liftAt : GoodIn wsX12_goesTo (wsV RX12 122 RX12 yX12_liftAt wsX12_liftAt) := goodIn_app (goodIn_of _ (by decide +kernel)) ggX12_goesTo_X12_liftAt
set_option maxRecDepth 20000 in
theorem ggX12_goesTo_X12_flies : GoodIn wsX12_goesTo wsX12_flies := goodIn_r _ [19, 3, 20, 1, 2, 21, 22, 23, 8, 24, 25, 26, 27, 28, 29, 30, 31, 32, 33, 34, 35, 36, 37, 38, 39, 40, 41, 42, 43, 44, 45, 46, 47, 48, 49, 50, 51, 52, 53, 54, 55, 56, 57] (by decide +kernel) (by decide +kernel)
set_option maxRecDepth 20000 in
theorem gX12_goesTo_X12_flies : GoodIn wsX12_goesTo (wsV RX12 125 RX12 yX12_flies wsX12_flies) := goodIn_app (goodIn_of _ (by decide +kernel)) ggX12_goesTo_X12_flies
theorem dX12_goesTo_0 : decode cX12_goesTo 0 = .ok (.aload_n 0, 1) := by decide +kernel
theorem dX12_goesTo_1 : decode cX12_goesTo 1 = .ok (.getfield 25, 3) := by decide +kernel
theorem dX12_goesTo_4 : decode cX12_goesTo 4 = .ok (.bipush 9, 2) := by decide +kernel
theorem dX12_goesTo_6 : decode cX12_goesTo 6 = .ok (.iload_n 1, 1) := by decide +kernel
theorem dX12_goesTo_7 : decode cX12_goesTo 7 = .ok (.imul, 1) := by decide +kernel
theorem dX12_goesTo_8 : decode cX12_goesTo 8 = .ok (.iload_n 2, 1) := by decide +kernel
theorem dX12_goesTo_9 : decode cX12_goesTo 9 = .ok (.iadd, 1) := by decide +kernel
theorem dX12_goesTo_10 : decode cX12_goesTo 10 = .ok (.iaload, 1) := by decide +kernel
theorem dX12_goesTo_11 : decode cX12_goesTo 11 = .ok (.istore 4, 2) := by decide +kernel
theorem dX12_goesTo_13 : decode cX12_goesTo 13 = .ok (.aload_n 0, 1) := by decide +kernel
theorem dX12_goesTo_14 : decode cX12_goesTo 14 = .ok (.iload_n 1, 1) := by decide +kernel
theorem dX12_goesTo_15 : decode cX12_goesTo 15 = .ok (.iload_n 2, 1) := by decide +kernel
theorem dX12_goesTo_16 : decode cX12_goesTo 16 = .ok (.aload_n 0, 1) := by decide +kernel
theorem dX12_goesTo_17 : decode cX12_goesTo 17 = .ok (.iload_n 1, 1) := by decide +kernel
theorem dX12_goesTo_18 : decode cX12_goesTo 18 = .ok (.iload 4, 2) := by decide +kernel
theorem dX12_goesTo_20 : decode cX12_goesTo 20 = .ok (.iload_n 3, 1) := by decide +kernel
theorem dX12_goesTo_21 : decode cX12_goesTo 21 = .ok (.invokevirtual 122, 3) := by decide +kernel
theorem dX12_goesTo_24 : decode cX12_goesTo 24 = .ok (.invokevirtual 125, 3) := by decide +kernel
theorem dX12_goesTo_27 : decode cX12_goesTo 27 = .ok (.istore 5, 2) := by decide +kernel
theorem dX12_goesTo_29 : decode cX12_goesTo 29 = .ok (.iload 5, 2) := by decide +kernel
theorem dX12_goesTo_31 : decode cX12_goesTo 31 = .ok (.ifCond .ne 32, 3) := by decide +kernel
theorem dX12_goesTo_34 : decode cX12_goesTo 34 = .ok (.aload_n 0, 1) := by decide +kernel
theorem dX12_goesTo_35 : decode cX12_goesTo 35 = .ok (.getfield 19, 3) := by decide +kernel
theorem dX12_goesTo_38 : decode cX12_goesTo 38 = .ok (.iload_n 2, 1) := by decide +kernel
theorem dX12_goesTo_39 : decode cX12_goesTo 39 = .ok (.iaload, 1) := by decide +kernel
theorem dX12_goesTo_40 : decode cX12_goesTo 40 = .ok (.iconst 1, 1) := by decide +kernel
theorem dX12_goesTo_41 : decode cX12_goesTo 41 = .ok (.if_icmp .ne 19, 3) := by decide +kernel
theorem dX12_goesTo_44 : decode cX12_goesTo 44 = .ok (.aload_n 0, 1) := by decide +kernel
theorem dX12_goesTo_45 : decode cX12_goesTo 45 = .ok (.getfield 7, 3) := by decide +kernel
theorem dX12_goesTo_48 : decode cX12_goesTo 48 = .ok (.iload 4, 2) := by decide +kernel
theorem dX12_goesTo_50 : decode cX12_goesTo 50 = .ok (.iaload, 1) := by decide +kernel
theorem dX12_goesTo_51 : decode cX12_goesTo 51 = .ok (.iconst 2, 1) := by decide +kernel
theorem dX12_goesTo_52 : decode cX12_goesTo 52 = .ok (.if_icmp .ne 8, 3) := by decide +kernel
theorem dX12_goesTo_55 : decode cX12_goesTo 55 = .ok (.bipush 9, 2) := by decide +kernel
theorem dX12_goesTo_57 : decode cX12_goesTo 57 = .ok (.goto 5, 3) := by decide +kernel
theorem dX12_goesTo_60 : decode cX12_goesTo 60 = .ok (.iload 4, 2) := by decide +kernel
theorem dX12_goesTo_62 : decode cX12_goesTo 62 = .ok (.ireturn, 1) := by decide +kernel
theorem dX12_goesTo_63 : decode cX12_goesTo 63 = .ok (.iload 4, 2) := by decide +kernel
theorem dX12_goesTo_65 : decode cX12_goesTo 65 = .ok (.iload 5, 2) := by decide +kernel
theorem dX12_goesTo_67 : decode cX12_goesTo 67 = .ok (.iadd, 1) := by decide +kernel
theorem dX12_goesTo_68 : decode cX12_goesTo 68 = .ok (.aload_n 0, 1) := by decide +kernel
theorem dX12_goesTo_69 : decode cX12_goesTo 69 = .ok (.getfield 99, 3) := by decide +kernel
theorem dX12_goesTo_72 : decode cX12_goesTo 72 = .ok (.if_icmp .ge 11, 3) := by decide +kernel
theorem dX12_goesTo_75 : decode cX12_goesTo 75 = .ok (.iload 4, 2) := by decide +kernel
theorem dX12_goesTo_77 : decode cX12_goesTo 77 = .ok (.iload 5, 2) := by decide +kernel
theorem dX12_goesTo_79 : decode cX12_goesTo 79 = .ok (.iadd, 1) := by decide +kernel
theorem dX12_goesTo_80 : decode cX12_goesTo 80 = .ok (.goto 5, 3) := by decide +kernel
theorem dX12_goesTo_83 : decode cX12_goesTo 83 = .ok (.bipush 8, 2) := by decide +kernel
theorem dX12_goesTo_85 : decode cX12_goesTo 85 = .ok (.ireturn, 1) := by decide +kernel
set_option maxRecDepth 20000 in
theorem ggX12_tossBy_X12_goesTo : GoodIn wsX12_tossBy wsX12_goesTo := goodIn_r _ [8, 2, 9, 10, 11, 12, 13, 14, 7, 15, 16, 17, 18, 19, 20, 21, 22, 23, 24, 25, 26, 27, 28, 29, 30, 31, 32, 33, 34, 35, 36, 37, 38, 39, 40, 41, 42, 43, 44, 45, 46, 47, 48, 49, 50, 51, 52, 53, 54, 55, 56, 57, 58, 59, 60, 61, 62, 63] (by decide +kernel) (by decide +kernel)
set_option maxRecDepth 20000 in
theorem gX12_tossBy_X12_goesTo : GoodIn wsX12_tossBy (wsV RX12 128 RX12 yX12_goesTo wsX12_goesTo) := goodIn_app (goodIn_of _ (by decide +kernel)) ggX12_tossBy_X12_goesTo
theorem dX12_tossBy_0 : decode cX12_tossBy 0 = .ok (.bipush 9, 2) := by decide +kernel
theorem dX12_tossBy_2 : decode cX12_tossBy 2 = .ok (.iload_n 1, 1) := by decide +kernel
theorem dX12_tossBy_3 : decode cX12_tossBy 3 = .ok (.imul, 1) := by decide +kernel
theorem dX12_tossBy_4 : decode cX12_tossBy 4 = .ok (.istore 4, 2) := by decide +kernel
theorem dX12_tossBy_6 : decode cX12_tossBy 6 = .ok (.iconst 0, 1) := by decide +kernel
theorem dX12_tossBy_7 : decode cX12_tossBy 7 = .ok (.istore 5, 2) := by decide +kernel
theorem dX12_tossBy_9 : decode cX12_tossBy 9 = .ok (.iconst 0, 1) := by decide +kernel
theorem dX12_tossBy_10 : decode cX12_tossBy 10 = .ok (.istore 6, 2) := by decide +kernel
theorem dX12_tossBy_12 : decode cX12_tossBy 12 = .ok (.iload 6, 2) := by decide +kernel
theorem dX12_tossBy_14 : decode cX12_tossBy 14 = .ok (.aload_n 0, 1) := by decide +kernel
theorem dX12_tossBy_15 : decode cX12_tossBy 15 = .ok (.getfield 105, 3) := by decide +kernel
theorem dX12_tossBy_18 : decode cX12_tossBy 18 = .ok (.if_icmp .ge 85, 3) := by decide +kernel
theorem dX12_tossBy_21 : decode cX12_tossBy 21 = .ok (.aload_n 0, 1) := by decide +kernel
theorem dX12_tossBy_22 : decode cX12_tossBy 22 = .ok (.getfield 25, 3) := by decide +kernel
theorem dX12_tossBy_25 : decode cX12_tossBy 25 = .ok (.iload 4, 2) := by decide +kernel
theorem dX12_tossBy_27 : decode cX12_tossBy 27 = .ok (.iload 6, 2) := by decide +kernel
theorem dX12_tossBy_29 : decode cX12_tossBy 29 = .ok (.iadd, 1) := by decide +kernel
theorem dX12_tossBy_30 : decode cX12_tossBy 30 = .ok (.iaload, 1) := by decide +kernel
theorem dX12_tossBy_31 : decode cX12_tossBy 31 = .ok (.iload_n 2, 1) := by decide +kernel
theorem dX12_tossBy_32 : decode cX12_tossBy 32 = .ok (.if_icmp .ne 48, 3) := by decide +kernel
theorem dX12_tossBy_35 : decode cX12_tossBy 35 = .ok (.aload_n 0, 1) := by decide +kernel
theorem dX12_tossBy_36 : decode cX12_tossBy 36 = .ok (.iload_n 1, 1) := by decide +kernel
theorem dX12_tossBy_37 : decode cX12_tossBy 37 = .ok (.iload 6, 2) := by decide +kernel
theorem dX12_tossBy_39 : decode cX12_tossBy 39 = .ok (.iload_n 3, 1) := by decide +kernel
theorem dX12_tossBy_40 : decode cX12_tossBy 40 = .ok (.invokevirtual 128, 3) := by decide +kernel
theorem dX12_tossBy_43 : decode cX12_tossBy 43 = .ok (.istore 7, 2) := by decide +kernel
theorem dX12_tossBy_45 : decode cX12_tossBy 45 = .ok (.iload 5, 2) := by decide +kernel
theorem dX12_tossBy_47 : decode cX12_tossBy 47 = .ok (.iload 7, 2) := by decide +kernel
theorem dX12_tossBy_49 : decode cX12_tossBy 49 = .ok (.iload_n 2, 1) := by decide +kernel
theorem dX12_tossBy_50 : decode cX12_tossBy 50 = .ok (.if_icmp .eq 14, 3) := by decide +kernel
theorem dX12_tossBy_53 : decode cX12_tossBy 53 = .ok (.iload 7, 2) := by decide +kernel
theorem dX12_tossBy_55 : decode cX12_tossBy 55 = .ok (.bipush 9, 2) := by decide +kernel
theorem dX12_tossBy_57 : decode cX12_tossBy 57 = .ok (.if_icmp .eq 7, 3) := by decide +kernel
theorem dX12_tossBy_60 : decode cX12_tossBy 60 = .ok (.iconst 1, 1) := by decide +kernel
theorem dX12_tossBy_61 : decode cX12_tossBy 61 = .ok (.goto 4, 3) := by decide +kernel
theorem dX12_tossBy_64 : decode cX12_tossBy 64 = .ok (.iconst 0, 1) := by decide +kernel
theorem dX12_tossBy_65 : decode cX12_tossBy 65 = .ok (.iadd, 1) := by decide +kernel
theorem dX12_tossBy_66 : decode cX12_tossBy 66 = .ok (.istore 5, 2) := by decide +kernel
theorem dX12_tossBy_68 : decode cX12_tossBy 68 = .ok (.aload_n 0, 1) := by decide +kernel
theorem dX12_tossBy_69 : decode cX12_tossBy 69 = .ok (.getfield 40, 3) := by decide +kernel
theorem dX12_tossBy_72 : decode cX12_tossBy 72 = .ok (.iload 6, 2) := by decide +kernel
theorem dX12_tossBy_74 : decode cX12_tossBy 74 = .ok (.iload 7, 2) := by decide +kernel
theorem dX12_tossBy_76 : decode cX12_tossBy 76 = .ok (.iastore, 1) := by decide +kernel
theorem dX12_tossBy_77 : decode cX12_tossBy 77 = .ok (.goto 20, 3) := by decide +kernel
theorem dX12_tossBy_80 : decode cX12_tossBy 80 = .ok (.aload_n 0, 1) := by decide +kernel
theorem dX12_tossBy_81 : decode cX12_tossBy 81 = .ok (.getfield 40, 3) := by decide +kernel
theorem dX12_tossBy_84 : decode cX12_tossBy 84 = .ok (.iload 6, 2) := by decide +kernel
theorem dX12_tossBy_86 : decode cX12_tossBy 86 = .ok (.aload_n 0, 1) := by decide +kernel
theorem dX12_tossBy_87 : decode cX12_tossBy 87 = .ok (.getfield 25, 3) := by decide +kernel
theorem dX12_tossBy_90 : decode cX12_tossBy 90 = .ok (.iload 4, 2) := by decide +kernel
theorem dX12_tossBy_92 : decode cX12_tossBy 92 = .ok (.iload 6, 2) := by decide +kernel
theorem dX12_tossBy_94 : decode cX12_tossBy 94 = .ok (.iadd, 1) := by decide +kernel
theorem dX12_tossBy_95 : decode cX12_tossBy 95 = .ok (.iaload, 1) := by decide +kernel
theorem dX12_tossBy_96 : decode cX12_tossBy 96 = .ok (.iastore, 1) := by decide +kernel
theorem dX12_tossBy_97 : decode cX12_tossBy 97 = .ok (.iinc 6 1, 3) := by decide +kernel
theorem dX12_tossBy_100 : decode cX12_tossBy 100 = .ok (.goto (-88), 3) := by decide +kernel
theorem dX12_tossBy_103 : decode cX12_tossBy 103 = .ok (.iconst 0, 1) := by decide +kernel
theorem dX12_tossBy_104 : decode cX12_tossBy 104 = .ok (.istore 6, 2) := by decide +kernel
theorem dX12_tossBy_106 : decode cX12_tossBy 106 = .ok (.iload 6, 2) := by decide +kernel
theorem dX12_tossBy_108 : decode cX12_tossBy 108 = .ok (.aload_n 0, 1) := by decide +kernel
theorem dX12_tossBy_109 : decode cX12_tossBy 109 = .ok (.getfield 105, 3) := by decide +kernel
theorem dX12_tossBy_112 : decode cX12_tossBy 112 = .ok (.if_icmp .ge 26, 3) := by decide +kernel
theorem dX12_tossBy_115 : decode cX12_tossBy 115 = .ok (.aload_n 0, 1) := by decide +kernel
theorem dX12_tossBy_116 : decode cX12_tossBy 116 = .ok (.getfield 25, 3) := by decide +kernel
theorem dX12_tossBy_119 : decode cX12_tossBy 119 = .ok (.iload 4, 2) := by decide +kernel
theorem dX12_tossBy_121 : decode cX12_tossBy 121 = .ok (.iload 6, 2) := by decide +kernel
theorem dX12_tossBy_123 : decode cX12_tossBy 123 = .ok (.iadd, 1) := by decide +kernel
theorem dX12_tossBy_124 : decode cX12_tossBy 124 = .ok (.aload_n 0, 1) := by decide +kernel
theorem dX12_tossBy_125 : decode cX12_tossBy 125 = .ok (.getfield 40, 3) := by decide +kernel
theorem dX12_tossBy_128 : decode cX12_tossBy 128 = .ok (.iload 6, 2) := by decide +kernel
theorem dX12_tossBy_130 : decode cX12_tossBy 130 = .ok (.iaload, 1) := by decide +kernel
theorem dX12_tossBy_131 : decode cX12_tossBy 131 = .ok (.iastore, 1) := by decide +kernel
theorem dX12_tossBy_132 : decode cX12_tossBy 132 = .ok (.iinc 6 1, 3) := by decide +kernel
theorem dX12_tossBy_135 : decode cX12_tossBy 135 = .ok (.goto (-29), 3) := by decide +kernel
theorem dX12_tossBy_138 : decode cX12_tossBy 138 = .ok (.aload_n 0, 1) := by decide +kernel
theorem dX12_tossBy_139 : decode cX12_tossBy 139 = .ok (.getfield 25, 3) := by decide +kernel
theorem dX12_tossBy_142 : decode cX12_tossBy 142 = .ok (.iload 4, 2) := by decide +kernel
theorem dX12_tossBy_144 : decode cX12_tossBy 144 = .ok (.bipush 8, 2) := by decide +kernel
theorem dX12_tossBy_146 : decode cX12_tossBy 146 = .ok (.iadd, 1) := by decide +kernel
theorem dX12_tossBy_147 : decode cX12_tossBy 147 = .ok (.dup2, 1) := by decide +kernel
theorem dX12_tossBy_148 : decode cX12_tossBy 148 = .ok (.iaload, 1) := by decide +kernel
theorem dX12_tossBy_149 : decode cX12_tossBy 149 = .ok (.iconst 1, 1) := by decide +kernel
theorem dX12_tossBy_150 : decode cX12_tossBy 150 = .ok (.iadd, 1) := by decide +kernel
theorem dX12_tossBy_151 : decode cX12_tossBy 151 = .ok (.iastore, 1) := by decide +kernel
theorem dX12_tossBy_152 : decode cX12_tossBy 152 = .ok (.iload 5, 2) := by decide +kernel
theorem dX12_tossBy_154 : decode cX12_tossBy 154 = .ok (.ireturn, 1) := by decide +kernel
theorem dX12_lyingAt_0 : decode cX12_lyingAt 0 = .ok (.iconst 0, 1) := by decide +kernel
theorem dX12_lyingAt_1 : decode cX12_lyingAt 1 = .ok (.istore_n 3, 1) := by decide +kernel
theorem dX12_lyingAt_2 : decode cX12_lyingAt 2 = .ok (.iconst 0, 1) := by decide +kernel
theorem dX12_lyingAt_3 : decode cX12_lyingAt 3 = .ok (.istore 4, 2) := by decide +kernel
theorem dX12_lyingAt_5 : decode cX12_lyingAt 5 = .ok (.iload 4, 2) := by decide +kernel
theorem dX12_lyingAt_7 : decode cX12_lyingAt 7 = .ok (.aload_n 0, 1) := by decide +kernel
theorem dX12_lyingAt_8 : decode cX12_lyingAt 8 = .ok (.getfield 105, 3) := by decide +kernel
theorem dX12_lyingAt_11 : decode cX12_lyingAt 11 = .ok (.if_icmp .ge 36, 3) := by decide +kernel
theorem dX12_lyingAt_14 : decode cX12_lyingAt 14 = .ok (.iload_n 3, 1) := by decide +kernel
theorem dX12_lyingAt_15 : decode cX12_lyingAt 15 = .ok (.aload_n 0, 1) := by decide +kernel
theorem dX12_lyingAt_16 : decode cX12_lyingAt 16 = .ok (.getfield 25, 3) := by decide +kernel
theorem dX12_lyingAt_19 : decode cX12_lyingAt 19 = .ok (.bipush 9, 2) := by decide +kernel
theorem dX12_lyingAt_21 : decode cX12_lyingAt 21 = .ok (.iload_n 1, 1) := by decide +kernel
theorem dX12_lyingAt_22 : decode cX12_lyingAt 22 = .ok (.imul, 1) := by decide +kernel
theorem dX12_lyingAt_23 : decode cX12_lyingAt 23 = .ok (.iload 4, 2) := by decide +kernel
theorem dX12_lyingAt_25 : decode cX12_lyingAt 25 = .ok (.iadd, 1) := by decide +kernel
theorem dX12_lyingAt_26 : decode cX12_lyingAt 26 = .ok (.iaload, 1) := by decide +kernel
theorem dX12_lyingAt_27 : decode cX12_lyingAt 27 = .ok (.iload_n 2, 1) := by decide +kernel
theorem dX12_lyingAt_28 : decode cX12_lyingAt 28 = .ok (.if_icmp .ne 10, 3) := by decide +kernel
theorem dX12_lyingAt_31 : decode cX12_lyingAt 31 = .ok (.iconst 1, 1) := by decide +kernel
theorem dX12_lyingAt_32 : decode cX12_lyingAt 32 = .ok (.iload 4, 2) := by decide +kernel
theorem dX12_lyingAt_34 : decode cX12_lyingAt 34 = .ok (.ishl, 1) := by decide +kernel
theorem dX12_lyingAt_35 : decode cX12_lyingAt 35 = .ok (.goto 4, 3) := by decide +kernel
theorem dX12_lyingAt_38 : decode cX12_lyingAt 38 = .ok (.iconst 0, 1) := by decide +kernel
theorem dX12_lyingAt_39 : decode cX12_lyingAt 39 = .ok (.ior, 1) := by decide +kernel
theorem dX12_lyingAt_40 : decode cX12_lyingAt 40 = .ok (.istore_n 3, 1) := by decide +kernel
theorem dX12_lyingAt_41 : decode cX12_lyingAt 41 = .ok (.iinc 4 1, 3) := by decide +kernel
theorem dX12_lyingAt_44 : decode cX12_lyingAt 44 = .ok (.goto (-39), 3) := by decide +kernel
theorem dX12_lyingAt_47 : decode cX12_lyingAt 47 = .ok (.iload_n 3, 1) := by decide +kernel
theorem dX12_lyingAt_48 : decode cX12_lyingAt 48 = .ok (.ireturn, 1) := by decide +kernel
theorem dX12_rightOn_0 : decode cX12_rightOn 0 = .ok (.iconst 0, 1) := by decide +kernel
theorem dX12_rightOn_1 : decode cX12_rightOn 1 = .ok (.istore_n 2, 1) := by decide +kernel
theorem dX12_rightOn_2 : decode cX12_rightOn 2 = .ok (.iconst 0, 1) := by decide +kernel
theorem dX12_rightOn_3 : decode cX12_rightOn 3 = .ok (.istore_n 3, 1) := by decide +kernel
theorem dX12_rightOn_4 : decode cX12_rightOn 4 = .ok (.iload_n 3, 1) := by decide +kernel
theorem dX12_rightOn_5 : decode cX12_rightOn 5 = .ok (.aload_n 0, 1) := by decide +kernel
theorem dX12_rightOn_6 : decode cX12_rightOn 6 = .ok (.getfield 105, 3) := by decide +kernel
theorem dX12_rightOn_9 : decode cX12_rightOn 9 = .ok (.if_icmp .ge 39, 3) := by decide +kernel
theorem dX12_rightOn_12 : decode cX12_rightOn 12 = .ok (.iload_n 2, 1) := by decide +kernel
theorem dX12_rightOn_13 : decode cX12_rightOn 13 = .ok (.aload_n 0, 1) := by decide +kernel
theorem dX12_rightOn_14 : decode cX12_rightOn 14 = .ok (.getfield 25, 3) := by decide +kernel
theorem dX12_rightOn_17 : decode cX12_rightOn 17 = .ok (.bipush 9, 2) := by decide +kernel
theorem dX12_rightOn_19 : decode cX12_rightOn 19 = .ok (.iload_n 1, 1) := by decide +kernel
theorem dX12_rightOn_20 : decode cX12_rightOn 20 = .ok (.imul, 1) := by decide +kernel
theorem dX12_rightOn_21 : decode cX12_rightOn 21 = .ok (.iload_n 3, 1) := by decide +kernel
theorem dX12_rightOn_22 : decode cX12_rightOn 22 = .ok (.iadd, 1) := by decide +kernel
theorem dX12_rightOn_23 : decode cX12_rightOn 23 = .ok (.iaload, 1) := by decide +kernel
theorem dX12_rightOn_24 : decode cX12_rightOn 24 = .ok (.aload_n 0, 1) := by decide +kernel
theorem dX12_rightOn_25 : decode cX12_rightOn 25 = .ok (.getfield 22, 3) := by decide +kernel
theorem dX12_rightOn_28 : decode cX12_rightOn 28 = .ok (.iload_n 3, 1) := by decide +kernel
theorem dX12_rightOn_29 : decode cX12_rightOn 29 = .ok (.iaload, 1) := by decide +kernel
theorem dX12_rightOn_30 : decode cX12_rightOn 30 = .ok (.if_icmp .ne 9, 3) := by decide +kernel
theorem dX12_rightOn_33 : decode cX12_rightOn 33 = .ok (.iconst 1, 1) := by decide +kernel
theorem dX12_rightOn_34 : decode cX12_rightOn 34 = .ok (.iload_n 3, 1) := by decide +kernel
theorem dX12_rightOn_35 : decode cX12_rightOn 35 = .ok (.ishl, 1) := by decide +kernel
theorem dX12_rightOn_36 : decode cX12_rightOn 36 = .ok (.goto 4, 3) := by decide +kernel
theorem dX12_rightOn_39 : decode cX12_rightOn 39 = .ok (.iconst 0, 1) := by decide +kernel
theorem dX12_rightOn_40 : decode cX12_rightOn 40 = .ok (.ior, 1) := by decide +kernel
theorem dX12_rightOn_41 : decode cX12_rightOn 41 = .ok (.istore_n 2, 1) := by decide +kernel
theorem dX12_rightOn_42 : decode cX12_rightOn 42 = .ok (.iinc 3 1, 3) := by decide +kernel
theorem dX12_rightOn_45 : decode cX12_rightOn 45 = .ok (.goto (-41), 3) := by decide +kernel
theorem dX12_rightOn_48 : decode cX12_rightOn 48 = .ok (.iload_n 2, 1) := by decide +kernel
theorem dX12_rightOn_49 : decode cX12_rightOn 49 = .ok (.ireturn, 1) := by decide +kernel
set_option maxRecDepth 20000 in
theorem ggX12_isClean_X12_lyingAt : GoodIn wsX12_isClean wsX12_lyingAt := goodIn_r _ [5, 6, 7, 13, 14, 15, 16, 17, 18, 19, 20, 21, 22, 23, 24, 25, 26, 27, 28, 29, 30, 31, 32, 33, 34, 35, 36, 37, 38, 39, 40, 41, 42] (by decide +kernel) (by decide +kernel)
set_option maxRecDepth 20000 in
theorem gX12_isClean_X12_lyingAt : GoodIn wsX12_isClean (wsV RX12 131 RX12 yX12_lyingAt wsX12_lyingAt) := goodIn_app (goodIn_of _ (by decide +kernel)) ggX12_isClean_X12_lyingAt
set_option maxRecDepth 20000 in
theorem ggX12_isClean_X12_rightOn : GoodIn wsX12_isClean wsX12_rightOn := goodIn_r _ [11, 6, 7, 12, 13, 14, 15, 16, 17, 18, 19, 20, 21, 22, 23, 24, 25, 26, 27, 28, 29, 30, 31, 32, 33, 34, 35, 36, 37, 38, 39, 40, 41, 42] (by decide +kernel) (by decide +kernel)
set_option maxRecDepth 20000 in
theorem gX12_isClean_X12_rightOn : GoodIn wsX12_isClean (wsV RX12 134 RX12 yX12_rightOn wsX12_rightOn) := goodIn_app (goodIn_of _ (by decide +kernel)) ggX12_isClean_X12_rightOn
theorem dX12_isClean_0 : decode cX12_isClean 0 = .ok (.aload_n 0, 1) := by decide +kernel
theorem dX12_isClean_1 : decode cX12_isClean 1 = .ok (.iload_n 1, 1) := by decide +kernel
theorem dX12_isClean_2 : decode cX12_isClean 2 = .ok (.iload_n 2, 1) := by decide +kernel
theorem dX12_isClean_3 : decode cX12_isClean 3 = .ok (.invokevirtual 131, 3) := by decide +kernel
theorem dX12_isClean_6 : decode cX12_isClean 6 = .ok (.aload_n 0, 1) := by decide +kernel
theorem dX12_isClean_7 : decode cX12_isClean 7 = .ok (.iload_n 1, 1) := by decide +kernel
theorem dX12_isClean_8 : decode cX12_isClean 8 = .ok (.invokevirtual 134, 3) := by decide +kernel
theorem dX12_isClean_11 : decode cX12_isClean 11 = .ok (.iconst (-1), 1) := by decide +kernel
theorem dX12_isClean_12 : decode cX12_isClean 12 = .ok (.ixor, 1) := by decide +kernel
theorem dX12_isClean_13 : decode cX12_isClean 13 = .ok (.iand, 1) := by decide +kernel
theorem dX12_isClean_14 : decode cX12_isClean 14 = .ok (.ifCond .ne 7, 3) := by decide +kernel
theorem dX12_isClean_17 : decode cX12_isClean 17 = .ok (.iconst 1, 1) := by decide +kernel
theorem dX12_isClean_18 : decode cX12_isClean 18 = .ok (.goto 4, 3) := by decide +kernel
theorem dX12_isClean_21 : decode cX12_isClean 21 = .ok (.iconst 0, 1) := by decide +kernel
theorem dX12_isClean_22 : decode cX12_isClean 22 = .ok (.ireturn, 1) := by decide +kernel
theorem dX12_guilt_0 : decode cX12_guilt 0 = .ok (.iconst 0, 1) := by decide +kernel
theorem dX12_guilt_1 : decode cX12_guilt 1 = .ok (.istore_n 3, 1) := by decide +kernel
theorem dX12_guilt_2 : decode cX12_guilt 2 = .ok (.iconst 0, 1) := by decide +kernel
theorem dX12_guilt_3 : decode cX12_guilt 3 = .ok (.istore 4, 2) := by decide +kernel
theorem dX12_guilt_5 : decode cX12_guilt 5 = .ok (.iload 4, 2) := by decide +kernel
theorem dX12_guilt_7 : decode cX12_guilt 7 = .ok (.aload_n 0, 1) := by decide +kernel
theorem dX12_guilt_8 : decode cX12_guilt 8 = .ok (.getfield 105, 3) := by decide +kernel
theorem dX12_guilt_11 : decode cX12_guilt 11 = .ok (.if_icmp .ge 50, 3) := by decide +kernel
theorem dX12_guilt_14 : decode cX12_guilt 14 = .ok (.iload_n 3, 1) := by decide +kernel
theorem dX12_guilt_15 : decode cX12_guilt 15 = .ok (.aload_n 0, 1) := by decide +kernel
theorem dX12_guilt_16 : decode cX12_guilt 16 = .ok (.getfield 25, 3) := by decide +kernel
theorem dX12_guilt_19 : decode cX12_guilt 19 = .ok (.bipush 9, 2) := by decide +kernel
theorem dX12_guilt_21 : decode cX12_guilt 21 = .ok (.iload_n 1, 1) := by decide +kernel
theorem dX12_guilt_22 : decode cX12_guilt 22 = .ok (.imul, 1) := by decide +kernel
theorem dX12_guilt_23 : decode cX12_guilt 23 = .ok (.iload 4, 2) := by decide +kernel
theorem dX12_guilt_25 : decode cX12_guilt 25 = .ok (.iadd, 1) := by decide +kernel
theorem dX12_guilt_26 : decode cX12_guilt 26 = .ok (.iaload, 1) := by decide +kernel
theorem dX12_guilt_27 : decode cX12_guilt 27 = .ok (.iload_n 2, 1) := by decide +kernel
theorem dX12_guilt_28 : decode cX12_guilt 28 = .ok (.if_icmp .ne 24, 3) := by decide +kernel
theorem dX12_guilt_31 : decode cX12_guilt 31 = .ok (.aload_n 0, 1) := by decide +kernel
theorem dX12_guilt_32 : decode cX12_guilt 32 = .ok (.getfield 19, 3) := by decide +kernel
theorem dX12_guilt_35 : decode cX12_guilt 35 = .ok (.iload 4, 2) := by decide +kernel
theorem dX12_guilt_37 : decode cX12_guilt 37 = .ok (.iaload, 1) := by decide +kernel
theorem dX12_guilt_38 : decode cX12_guilt 38 = .ok (.iconst 1, 1) := by decide +kernel
theorem dX12_guilt_39 : decode cX12_guilt 39 = .ok (.if_icmp .eq 13, 3) := by decide +kernel
theorem dX12_guilt_42 : decode cX12_guilt 42 = .ok (.aload_n 0, 1) := by decide +kernel
theorem dX12_guilt_43 : decode cX12_guilt 43 = .ok (.getfield 16, 3) := by decide +kernel
theorem dX12_guilt_46 : decode cX12_guilt 46 = .ok (.iload 4, 2) := by decide +kernel
theorem dX12_guilt_48 : decode cX12_guilt 48 = .ok (.iaload, 1) := by decide +kernel
theorem dX12_guilt_49 : decode cX12_guilt 49 = .ok (.goto 4, 3) := by decide +kernel
theorem dX12_guilt_52 : decode cX12_guilt 52 = .ok (.iconst 0, 1) := by decide +kernel
theorem dX12_guilt_53 : decode cX12_guilt 53 = .ok (.iadd, 1) := by decide +kernel
theorem dX12_guilt_54 : decode cX12_guilt 54 = .ok (.istore_n 3, 1) := by decide +kernel
theorem dX12_guilt_55 : decode cX12_guilt 55 = .ok (.iinc 4 1, 3) := by decide +kernel
theorem dX12_guilt_58 : decode cX12_guilt 58 = .ok (.goto (-53), 3) := by decide +kernel
theorem dX12_guilt_61 : decode cX12_guilt 61 = .ok (.iload_n 3, 1) := by decide +kernel
theorem dX12_guilt_62 : decode cX12_guilt 62 = .ok (.ireturn, 1) := by decide +kernel
set_option maxRecDepth 20000 in
theorem ggX12_person_X12_isPerson : GoodIn wsX12_person wsX12_isPerson := goodIn_r _ [6, 7, 8, 9, 5, 10, 49, 50, 51, 52, 53, 54, 55, 56, 57, 58, 59, 60, 61, 62, 63, 64, 65, 66, 67, 68, 69, 70, 71, 72, 73, 74, 75, 76, 77, 78] (by decide +kernel) (by decide +kernel)
set_option maxRecDepth 20000 in
theorem gX12_person_X12_isPerson : GoodIn wsX12_person (wsV RX12 137 RX12 yX12_isPerson wsX12_isPerson) := goodIn_app (goodIn_of _ (by decide +kernel)) ggX12_person_X12_isPerson
set_option maxRecDepth 20000 in
theorem ggX12_person_X12_liftAt : GoodIn wsX12_person wsX12_liftAt := goodIn_r _ [14, 15, 1, 16, 17, 18, 5, 19, 20, 21, 49, 50, 51, 52, 53, 54, 55, 56, 57, 58, 59, 60, 61, 62, 63, 64, 65, 66, 67, 68, 69, 70, 71, 72, 73, 74, 75, 76, 77, 78] (by decide +kernel) (by decide +kernel)
set_option maxRecDepth 20000 in
theorem gX12_person_X12_liftAt : GoodIn wsX12_person (wsV RX12 122 RX12 yX12_liftAt wsX12_liftAt) := goodIn_app (goodIn_of _ (by decide +kernel)) ggX12_person_X12_liftAt
set_option maxRecDepth 20000 in
theorem ggX12_person_X12_guilt : GoodIn wsX12_person wsX12_guilt := goodIn_r _ [25, 26, 15, 27, 28, 49, 50, 51, 52, 53, 54, 55, 56, 57, 58, 59, 60, 61, 62, 63, 64, 65, 66, 67, 68, 69, 70, 71, 72, 73, 74, 75, 76, 77, 78] (by decide +kernel) (by decide +kernel)
set_option maxRecDepth 20000 in
theorem gX12_person_X12_guilt : GoodIn wsX12_person (wsV RX12 141 RX12 yX12_guilt wsX12_guilt) := goodIn_app (goodIn_of _ (by decide +kernel)) ggX12_person_X12_guilt
set_option maxRecDepth 20000 in
theorem ggX12_person_X12_lyingAt : GoodIn wsX12_person wsX12_lyingAt := goodIn_r _ [32, 26, 15, 49, 50, 51, 52, 53, 54, 55, 56, 57, 58, 59, 60, 61, 62, 63, 64, 65, 66, 67, 68, 69, 70, 71, 72, 73, 74, 75, 76, 77, 78] (by decide +kernel) (by decide +kernel)
set_option maxRecDepth 20000 in
theorem gX12_person_X12_lyingAt : GoodIn wsX12_person (wsV RX12 131 RX12 yX12_lyingAt wsX12_lyingAt) := goodIn_app (goodIn_of _ (by decide +kernel)) ggX12_person_X12_lyingAt
set_option maxRecDepth 20000 in
theorem ggX12_person_X12_isClean : GoodIn wsX12_person wsX12_isClean := goodIn_r _ [36, 29, 30, 31, 5, 32, 26, 15, 37, 38, 39, 40, 41, 49, 50, 51, 52, 53, 54, 55, 56, 57, 58, 59, 60, 61, 62, 63, 64, 65, 66, 67, 68, 69, 70, 71, 72, 73, 74, 75, 76, 77, 78] (by decide +kernel) (by decide +kernel)
set_option maxRecDepth 20000 in
theorem gX12_person_X12_isClean : GoodIn wsX12_person (wsV RX12 144 RX12 yX12_isClean wsX12_isClean) := goodIn_app (goodIn_of _ (by decide +kernel)) ggX12_person_X12_isClean
set_option maxRecDepth 20000 in
theorem ggX12_person_X12_rightOn : GoodIn wsX12_person wsX12_rightOn := goodIn_r _ [40, 26, 15, 41, 49, 50, 51, 52, 53, 54, 55, 56, 57, 58, 59, 60, 61, 62, 63, 64, 65, 66, 67, 68, 69, 70, 71, 72, 73, 74, 75, 76, 77, 78] (by decide +kernel) (by decide +kernel)
set_option maxRecDepth 20000 in
theorem gX12_person_X12_rightOn : GoodIn wsX12_person (wsV RX12 134 RX12 yX12_rightOn wsX12_rightOn) := goodIn_app (goodIn_of _ (by decide +kernel)) ggX12_person_X12_rightOn
set_option maxRecDepth 20000 in
theorem ggX12_person_X12_weighs : GoodIn wsX12_person wsX12_weighs := goodIn_r _ [45, 26, 28, 46, 47, 5, 48, 49, 50, 51, 52, 53, 54, 55, 56, 57, 58, 59, 60, 61, 62, 63, 64, 65, 66, 67, 68, 69, 70, 71, 72, 73, 74, 75, 76, 77, 78] (by decide +kernel) (by decide +kernel)
set_option maxRecDepth 20000 in
theorem gX12_person_X12_weighs : GoodIn wsX12_person (wsV RX12 148 RX12 yX12_weighs wsX12_weighs) := goodIn_app (goodIn_of _ (by decide +kernel)) ggX12_person_X12_weighs
theorem dX12_person_0 : decode cX12_person 0 = .ok (.aload_n 0, 1) := by decide +kernel
theorem dX12_person_1 : decode cX12_person 1 = .ok (.iload_n 1, 1) := by decide +kernel
theorem dX12_person_2 : decode cX12_person 2 = .ok (.invokevirtual 137, 3) := by decide +kernel
theorem dX12_person_5 : decode cX12_person 5 = .ok (.ifCond .ne 5, 3) := by decide +kernel
theorem dX12_person_8 : decode cX12_person 8 = .ok (.iconst (-1), 1) := by decide +kernel
theorem dX12_person_9 : decode cX12_person 9 = .ok (.ireturn, 1) := by decide +kernel
theorem dX12_person_10 : decode cX12_person 10 = .ok (.iload_n 2, 1) := by decide +kernel
theorem dX12_person_11 : decode cX12_person 11 = .ok (.tableswitch 98 0 5 #[37, 44, 52, 59, 66, 81], 37) := by decide +kernel
theorem dX12_person_48 : decode cX12_person 48 = .ok (.aload_n 0, 1) := by decide +kernel
theorem dX12_person_49 : decode cX12_person 49 = .ok (.getfield 7, 3) := by decide +kernel
theorem dX12_person_52 : decode cX12_person 52 = .ok (.iload_n 1, 1) := by decide +kernel
theorem dX12_person_53 : decode cX12_person 53 = .ok (.iaload, 1) := by decide +kernel
theorem dX12_person_54 : decode cX12_person 54 = .ok (.ireturn, 1) := by decide +kernel
theorem dX12_person_55 : decode cX12_person 55 = .ok (.aload_n 0, 1) := by decide +kernel
theorem dX12_person_56 : decode cX12_person 56 = .ok (.iconst 0, 1) := by decide +kernel
theorem dX12_person_57 : decode cX12_person 57 = .ok (.iload_n 1, 1) := by decide +kernel
theorem dX12_person_58 : decode cX12_person 58 = .ok (.iconst 0, 1) := by decide +kernel
theorem dX12_person_59 : decode cX12_person 59 = .ok (.invokevirtual 122, 3) := by decide +kernel
theorem dX12_person_62 : decode cX12_person 62 = .ok (.ireturn, 1) := by decide +kernel
theorem dX12_person_63 : decode cX12_person 63 = .ok (.aload_n 0, 1) := by decide +kernel
theorem dX12_person_64 : decode cX12_person 64 = .ok (.iconst 0, 1) := by decide +kernel
theorem dX12_person_65 : decode cX12_person 65 = .ok (.iload_n 1, 1) := by decide +kernel
theorem dX12_person_66 : decode cX12_person 66 = .ok (.invokevirtual 141, 3) := by decide +kernel
theorem dX12_person_69 : decode cX12_person 69 = .ok (.ireturn, 1) := by decide +kernel
theorem dX12_person_70 : decode cX12_person 70 = .ok (.aload_n 0, 1) := by decide +kernel
theorem dX12_person_71 : decode cX12_person 71 = .ok (.iconst 0, 1) := by decide +kernel
theorem dX12_person_72 : decode cX12_person 72 = .ok (.iload_n 1, 1) := by decide +kernel
theorem dX12_person_73 : decode cX12_person 73 = .ok (.invokevirtual 131, 3) := by decide +kernel
theorem dX12_person_76 : decode cX12_person 76 = .ok (.ireturn, 1) := by decide +kernel
theorem dX12_person_77 : decode cX12_person 77 = .ok (.aload_n 0, 1) := by decide +kernel
theorem dX12_person_78 : decode cX12_person 78 = .ok (.iconst 0, 1) := by decide +kernel
theorem dX12_person_79 : decode cX12_person 79 = .ok (.iload_n 1, 1) := by decide +kernel
theorem dX12_person_80 : decode cX12_person 80 = .ok (.invokevirtual 144, 3) := by decide +kernel
theorem dX12_person_83 : decode cX12_person 83 = .ok (.ifCond .eq 7, 3) := by decide +kernel
theorem dX12_person_86 : decode cX12_person 86 = .ok (.iconst 1, 1) := by decide +kernel
theorem dX12_person_87 : decode cX12_person 87 = .ok (.goto 4, 3) := by decide +kernel
theorem dX12_person_90 : decode cX12_person 90 = .ok (.iconst 0, 1) := by decide +kernel
theorem dX12_person_91 : decode cX12_person 91 = .ok (.ireturn, 1) := by decide +kernel
theorem dX12_person_92 : decode cX12_person 92 = .ok (.aload_n 0, 1) := by decide +kernel
theorem dX12_person_93 : decode cX12_person 93 = .ok (.aload_n 0, 1) := by decide +kernel
theorem dX12_person_94 : decode cX12_person 94 = .ok (.iconst 0, 1) := by decide +kernel
theorem dX12_person_95 : decode cX12_person 95 = .ok (.iload_n 1, 1) := by decide +kernel
theorem dX12_person_96 : decode cX12_person 96 = .ok (.invokevirtual 131, 3) := by decide +kernel
theorem dX12_person_99 : decode cX12_person 99 = .ok (.aload_n 0, 1) := by decide +kernel
theorem dX12_person_100 : decode cX12_person 100 = .ok (.iconst 0, 1) := by decide +kernel
theorem dX12_person_101 : decode cX12_person 101 = .ok (.invokevirtual 134, 3) := by decide +kernel
theorem dX12_person_104 : decode cX12_person 104 = .ok (.iand, 1) := by decide +kernel
theorem dX12_person_105 : decode cX12_person 105 = .ok (.invokevirtual 148, 3) := by decide +kernel
theorem dX12_person_108 : decode cX12_person 108 = .ok (.ireturn, 1) := by decide +kernel
theorem dX12_person_109 : decode cX12_person 109 = .ok (.bipush (-2), 2) := by decide +kernel
theorem dX12_person_111 : decode cX12_person 111 = .ok (.ireturn, 1) := by decide +kernel
set_option maxRecDepth 20000 in
theorem ggX12_weighs_X12_has : GoodIn wsX12_weighs wsX12_has := goodIn_r _ [6] (by decide +kernel) (by decide +kernel)
set_option maxRecDepth 20000 in
theorem gX12_weighs_X12_has : GoodIn wsX12_weighs (va_wsS RX12 151 yX12_has wsX12_has) := goodIn_app (goodIn_of _ (by decide +kernel)) ggX12_weighs_X12_has
theorem dX12_weighs_0 : decode cX12_weighs 0 = .ok (.iconst 0, 1) := by decide +kernel
theorem dX12_weighs_1 : decode cX12_weighs 1 = .ok (.istore_n 2, 1) := by decide +kernel
theorem dX12_weighs_2 : decode cX12_weighs 2 = .ok (.iconst 0, 1) := by decide +kernel
theorem dX12_weighs_3 : decode cX12_weighs 3 = .ok (.istore_n 3, 1) := by decide +kernel
theorem dX12_weighs_4 : decode cX12_weighs 4 = .ok (.iload_n 3, 1) := by decide +kernel
theorem dX12_weighs_5 : decode cX12_weighs 5 = .ok (.aload_n 0, 1) := by decide +kernel
theorem dX12_weighs_6 : decode cX12_weighs 6 = .ok (.getfield 105, 3) := by decide +kernel
theorem dX12_weighs_9 : decode cX12_weighs 9 = .ok (.if_icmp .ge 30, 3) := by decide +kernel
theorem dX12_weighs_12 : decode cX12_weighs 12 = .ok (.iload_n 2, 1) := by decide +kernel
theorem dX12_weighs_13 : decode cX12_weighs 13 = .ok (.iload_n 1, 1) := by decide +kernel
theorem dX12_weighs_14 : decode cX12_weighs 14 = .ok (.iload_n 3, 1) := by decide +kernel
theorem dX12_weighs_15 : decode cX12_weighs 15 = .ok (.invokestatic 151, 3) := by decide +kernel
theorem dX12_weighs_18 : decode cX12_weighs 18 = .ok (.ifCond .eq 12, 3) := by decide +kernel
theorem dX12_weighs_21 : decode cX12_weighs 21 = .ok (.aload_n 0, 1) := by decide +kernel
theorem dX12_weighs_22 : decode cX12_weighs 22 = .ok (.getfield 16, 3) := by decide +kernel
theorem dX12_weighs_25 : decode cX12_weighs 25 = .ok (.iload_n 3, 1) := by decide +kernel
theorem dX12_weighs_26 : decode cX12_weighs 26 = .ok (.iaload, 1) := by decide +kernel
theorem dX12_weighs_27 : decode cX12_weighs 27 = .ok (.goto 4, 3) := by decide +kernel
theorem dX12_weighs_30 : decode cX12_weighs 30 = .ok (.iconst 0, 1) := by decide +kernel
theorem dX12_weighs_31 : decode cX12_weighs 31 = .ok (.iadd, 1) := by decide +kernel
theorem dX12_weighs_32 : decode cX12_weighs 32 = .ok (.istore_n 2, 1) := by decide +kernel
theorem dX12_weighs_33 : decode cX12_weighs 33 = .ok (.iinc 3 1, 3) := by decide +kernel
theorem dX12_weighs_36 : decode cX12_weighs 36 = .ok (.goto (-32), 3) := by decide +kernel
theorem dX12_weighs_39 : decode cX12_weighs 39 = .ok (.iload_n 2, 1) := by decide +kernel
theorem dX12_weighs_40 : decode cX12_weighs 40 = .ok (.ireturn, 1) := by decide +kernel
set_option maxRecDepth 20000 in
theorem ggX12_grain_X12_isGrain : GoodIn wsX12_grain wsX12_isGrain := goodIn_r _ [9, 10, 11, 12, 8, 13, 44, 45, 46, 47, 48, 49, 50, 51, 52, 53, 54, 55, 56, 57, 58, 59, 60, 61, 62, 63, 64, 65, 66, 67, 68, 69, 70, 71, 72, 73] (by decide +kernel) (by decide +kernel)
set_option maxRecDepth 20000 in
theorem gX12_grain_X12_isGrain : GoodIn wsX12_grain (wsV RX12 154 RX12 yX12_isGrain wsX12_isGrain) := goodIn_app (goodIn_of _ (by decide +kernel)) ggX12_grain_X12_isGrain
set_option maxRecDepth 20000 in
theorem ggX12_grain_X12_lies : GoodIn wsX12_grain wsX12_lies := goodIn_r _ [17, 4, 18, 44, 45, 46, 47, 48, 49, 50, 51, 52, 53, 54, 55, 56, 57, 58, 59, 60, 61, 62, 63, 64, 65, 66, 67, 68, 69, 70, 71, 72, 73] (by decide +kernel) (by decide +kernel)
set_option maxRecDepth 20000 in
theorem gX12_grain_X12_lies : GoodIn wsX12_grain (wsV RX12 157 RX12 yX12_lies wsX12_lies) := goodIn_app (goodIn_of _ (by decide +kernel)) ggX12_grain_X12_lies
set_option maxRecDepth 20000 in
theorem ggX12_grain_X12_liftAt : GoodIn wsX12_grain wsX12_liftAt := goodIn_r _ [22, 4, 23, 24, 25, 26, 8, 27, 28, 29, 44, 45, 46, 47, 48, 49, 50, 51, 52, 53, 54, 55, 56, 57, 58, 59, 60, 61, 62, 63, 64, 65, 66, 67, 68, 69, 70, 71, 72, 73] (by decide +kernel) (by decide +kernel)
set_option maxRecDepth 20000 in
theorem gX12_grain_X12_liftAt : GoodIn wsX12_grain (wsV RX12 122 RX12 yX12_liftAt wsX12_liftAt) := goodIn_app (goodIn_of _ (by decide +kernel)) ggX12_grain_X12_liftAt
set_option maxRecDepth 20000 in
theorem ggX12_grain_X12_liftOf : GoodIn wsX12_grain wsX12_liftOf := goodIn_r _ [32] (by decide +kernel) (by decide +kernel)
set_option maxRecDepth 20000 in
theorem gX12_grain_X12_liftOf : GoodIn wsX12_grain (va_wsS RX12 115 yX12_liftOf wsX12_liftOf) := goodIn_app (goodIn_of _ (by decide +kernel)) ggX12_grain_X12_liftOf
set_option maxRecDepth 20000 in
theorem ggX12_grain_X12_goesTo : GoodIn wsX12_grain wsX12_goesTo := goodIn_r _ [36, 4, 2, 23, 18, 19, 20, 21, 8, 22, 24, 25, 26, 27, 28, 29, 37, 38, 39, 40, 3, 1, 41, 42, 43, 30, 31, 32, 44, 45, 46, 47, 48, 49, 50, 51, 52, 53, 54, 55, 56, 57, 58, 59, 60, 61, 62, 63, 64, 65, 66, 67, 68, 69, 70, 71, 72, 73] (by decide +kernel) (by decide +kernel)
set_option maxRecDepth 20000 in
theorem gX12_grain_X12_goesTo : GoodIn wsX12_grain (wsV RX12 128 RX12 yX12_goesTo wsX12_goesTo) := goodIn_app (goodIn_of _ (by decide +kernel)) ggX12_grain_X12_goesTo
theorem dX12_grain_0 : decode cX12_grain 0 = .ok (.aload_n 0, 1) := by decide +kernel
theorem dX12_grain_1 : decode cX12_grain 1 = .ok (.iload_n 1, 1) := by decide +kernel
theorem dX12_grain_2 : decode cX12_grain 2 = .ok (.invokevirtual 154, 3) := by decide +kernel
theorem dX12_grain_5 : decode cX12_grain 5 = .ok (.ifCond .ne 5, 3) := by decide +kernel
theorem dX12_grain_8 : decode cX12_grain 8 = .ok (.iconst (-1), 1) := by decide +kernel
theorem dX12_grain_9 : decode cX12_grain 9 = .ok (.ireturn, 1) := by decide +kernel
theorem dX12_grain_10 : decode cX12_grain 10 = .ok (.iload_n 2, 1) := by decide +kernel
theorem dX12_grain_11 : decode cX12_grain 11 = .ok (.tableswitch 151 0 6 #[41, 48, 55, 62, 69, 104, 130], 41) := by decide +kernel
theorem dX12_grain_52 : decode cX12_grain 52 = .ok (.aload_n 0, 1) := by decide +kernel
theorem dX12_grain_53 : decode cX12_grain 53 = .ok (.getfield 16, 3) := by decide +kernel
theorem dX12_grain_56 : decode cX12_grain 56 = .ok (.iload_n 1, 1) := by decide +kernel
theorem dX12_grain_57 : decode cX12_grain 57 = .ok (.iaload, 1) := by decide +kernel
theorem dX12_grain_58 : decode cX12_grain 58 = .ok (.ireturn, 1) := by decide +kernel
theorem dX12_grain_59 : decode cX12_grain 59 = .ok (.aload_n 0, 1) := by decide +kernel
theorem dX12_grain_60 : decode cX12_grain 60 = .ok (.getfield 19, 3) := by decide +kernel
theorem dX12_grain_63 : decode cX12_grain 63 = .ok (.iload_n 1, 1) := by decide +kernel
theorem dX12_grain_64 : decode cX12_grain 64 = .ok (.iaload, 1) := by decide +kernel
theorem dX12_grain_65 : decode cX12_grain 65 = .ok (.ireturn, 1) := by decide +kernel
theorem dX12_grain_66 : decode cX12_grain 66 = .ok (.aload_n 0, 1) := by decide +kernel
theorem dX12_grain_67 : decode cX12_grain 67 = .ok (.getfield 22, 3) := by decide +kernel
theorem dX12_grain_70 : decode cX12_grain 70 = .ok (.iload_n 1, 1) := by decide +kernel
theorem dX12_grain_71 : decode cX12_grain 71 = .ok (.iaload, 1) := by decide +kernel
theorem dX12_grain_72 : decode cX12_grain 72 = .ok (.ireturn, 1) := by decide +kernel
theorem dX12_grain_73 : decode cX12_grain 73 = .ok (.aload_n 0, 1) := by decide +kernel
theorem dX12_grain_74 : decode cX12_grain 74 = .ok (.getfield 25, 3) := by decide +kernel
theorem dX12_grain_77 : decode cX12_grain 77 = .ok (.iload_n 1, 1) := by decide +kernel
theorem dX12_grain_78 : decode cX12_grain 78 = .ok (.iaload, 1) := by decide +kernel
theorem dX12_grain_79 : decode cX12_grain 79 = .ok (.ireturn, 1) := by decide +kernel
theorem dX12_grain_80 : decode cX12_grain 80 = .ok (.aload_n 0, 1) := by decide +kernel
theorem dX12_grain_81 : decode cX12_grain 81 = .ok (.iconst 0, 1) := by decide +kernel
theorem dX12_grain_82 : decode cX12_grain 82 = .ok (.iload_n 1, 1) := by decide +kernel
theorem dX12_grain_83 : decode cX12_grain 83 = .ok (.invokevirtual 157, 3) := by decide +kernel
theorem dX12_grain_86 : decode cX12_grain 86 = .ok (.ifCond .eq 27, 3) := by decide +kernel
theorem dX12_grain_89 : decode cX12_grain 89 = .ok (.aload_n 0, 1) := by decide +kernel
theorem dX12_grain_90 : decode cX12_grain 90 = .ok (.iconst 0, 1) := by decide +kernel
theorem dX12_grain_91 : decode cX12_grain 91 = .ok (.aload_n 0, 1) := by decide +kernel
theorem dX12_grain_92 : decode cX12_grain 92 = .ok (.getfield 25, 3) := by decide +kernel
theorem dX12_grain_95 : decode cX12_grain 95 = .ok (.iload_n 1, 1) := by decide +kernel
theorem dX12_grain_96 : decode cX12_grain 96 = .ok (.iaload, 1) := by decide +kernel
theorem dX12_grain_97 : decode cX12_grain 97 = .ok (.iconst 0, 1) := by decide +kernel
theorem dX12_grain_98 : decode cX12_grain 98 = .ok (.invokevirtual 122, 3) := by decide +kernel
theorem dX12_grain_101 : decode cX12_grain 101 = .ok (.aload_n 0, 1) := by decide +kernel
theorem dX12_grain_102 : decode cX12_grain 102 = .ok (.getfield 19, 3) := by decide +kernel
theorem dX12_grain_105 : decode cX12_grain 105 = .ok (.iload_n 1, 1) := by decide +kernel
theorem dX12_grain_106 : decode cX12_grain 106 = .ok (.iaload, 1) := by decide +kernel
theorem dX12_grain_107 : decode cX12_grain 107 = .ok (.invokestatic 115, 3) := by decide +kernel
theorem dX12_grain_110 : decode cX12_grain 110 = .ok (.goto 4, 3) := by decide +kernel
theorem dX12_grain_113 : decode cX12_grain 113 = .ok (.iconst 0, 1) := by decide +kernel
theorem dX12_grain_114 : decode cX12_grain 114 = .ok (.ireturn, 1) := by decide +kernel
theorem dX12_grain_115 : decode cX12_grain 115 = .ok (.aload_n 0, 1) := by decide +kernel
theorem dX12_grain_116 : decode cX12_grain 116 = .ok (.iconst 0, 1) := by decide +kernel
theorem dX12_grain_117 : decode cX12_grain 117 = .ok (.iload_n 1, 1) := by decide +kernel
theorem dX12_grain_118 : decode cX12_grain 118 = .ok (.invokevirtual 157, 3) := by decide +kernel
theorem dX12_grain_121 : decode cX12_grain 121 = .ok (.ifCond .eq 13, 3) := by decide +kernel
theorem dX12_grain_124 : decode cX12_grain 124 = .ok (.aload_n 0, 1) := by decide +kernel
theorem dX12_grain_125 : decode cX12_grain 125 = .ok (.iconst 0, 1) := by decide +kernel
theorem dX12_grain_126 : decode cX12_grain 126 = .ok (.iload_n 1, 1) := by decide +kernel
theorem dX12_grain_127 : decode cX12_grain 127 = .ok (.iconst 0, 1) := by decide +kernel
theorem dX12_grain_128 : decode cX12_grain 128 = .ok (.invokevirtual 128, 3) := by decide +kernel
theorem dX12_grain_131 : decode cX12_grain 131 = .ok (.goto 9, 3) := by decide +kernel
theorem dX12_grain_134 : decode cX12_grain 134 = .ok (.aload_n 0, 1) := by decide +kernel
theorem dX12_grain_135 : decode cX12_grain 135 = .ok (.getfield 25, 3) := by decide +kernel
theorem dX12_grain_138 : decode cX12_grain 138 = .ok (.iload_n 1, 1) := by decide +kernel
theorem dX12_grain_139 : decode cX12_grain 139 = .ok (.iaload, 1) := by decide +kernel
theorem dX12_grain_140 : decode cX12_grain 140 = .ok (.ireturn, 1) := by decide +kernel
theorem dX12_grain_141 : decode cX12_grain 141 = .ok (.aload_n 0, 1) := by decide +kernel
theorem dX12_grain_142 : decode cX12_grain 142 = .ok (.getfield 25, 3) := by decide +kernel
theorem dX12_grain_145 : decode cX12_grain 145 = .ok (.iload_n 1, 1) := by decide +kernel
theorem dX12_grain_146 : decode cX12_grain 146 = .ok (.iaload, 1) := by decide +kernel
theorem dX12_grain_147 : decode cX12_grain 147 = .ok (.aload_n 0, 1) := by decide +kernel
theorem dX12_grain_148 : decode cX12_grain 148 = .ok (.getfield 22, 3) := by decide +kernel
theorem dX12_grain_151 : decode cX12_grain 151 = .ok (.iload_n 1, 1) := by decide +kernel
theorem dX12_grain_152 : decode cX12_grain 152 = .ok (.iaload, 1) := by decide +kernel
theorem dX12_grain_153 : decode cX12_grain 153 = .ok (.if_icmp .ne 7, 3) := by decide +kernel
theorem dX12_grain_156 : decode cX12_grain 156 = .ok (.iconst 1, 1) := by decide +kernel
theorem dX12_grain_157 : decode cX12_grain 157 = .ok (.goto 4, 3) := by decide +kernel
theorem dX12_grain_160 : decode cX12_grain 160 = .ok (.iconst 0, 1) := by decide +kernel
theorem dX12_grain_161 : decode cX12_grain 161 = .ok (.ireturn, 1) := by decide +kernel
theorem dX12_grain_162 : decode cX12_grain 162 = .ok (.bipush (-2), 2) := by decide +kernel
theorem dX12_grain_164 : decode cX12_grain 164 = .ok (.ireturn, 1) := by decide +kernel
theorem dX12_keepAct_0 : decode cX12_keepAct 0 = .ok (.iconst 0, 1) := by decide +kernel
theorem dX12_keepAct_1 : decode cX12_keepAct 1 = .ok (.istore_n 1, 1) := by decide +kernel
theorem dX12_keepAct_2 : decode cX12_keepAct 2 = .ok (.iload_n 1, 1) := by decide +kernel
theorem dX12_keepAct_3 : decode cX12_keepAct 3 = .ok (.bipush 9, 2) := by decide +kernel
theorem dX12_keepAct_5 : decode cX12_keepAct 5 = .ok (.if_icmp .ge 29, 3) := by decide +kernel
theorem dX12_keepAct_8 : decode cX12_keepAct 8 = .ok (.aload_n 0, 1) := by decide +kernel
theorem dX12_keepAct_9 : decode cX12_keepAct 9 = .ok (.getfield 43, 3) := by decide +kernel
theorem dX12_keepAct_12 : decode cX12_keepAct 12 = .ok (.bipush 9, 2) := by decide +kernel
theorem dX12_keepAct_14 : decode cX12_keepAct 14 = .ok (.aload_n 0, 1) := by decide +kernel
theorem dX12_keepAct_15 : decode cX12_keepAct 15 = .ok (.getfield 160, 3) := by decide +kernel
theorem dX12_keepAct_18 : decode cX12_keepAct 18 = .ok (.imul, 1) := by decide +kernel
theorem dX12_keepAct_19 : decode cX12_keepAct 19 = .ok (.iload_n 1, 1) := by decide +kernel
theorem dX12_keepAct_20 : decode cX12_keepAct 20 = .ok (.iadd, 1) := by decide +kernel
theorem dX12_keepAct_21 : decode cX12_keepAct 21 = .ok (.aload_n 0, 1) := by decide +kernel
theorem dX12_keepAct_22 : decode cX12_keepAct 22 = .ok (.getfield 25, 3) := by decide +kernel
theorem dX12_keepAct_25 : decode cX12_keepAct 25 = .ok (.iload_n 1, 1) := by decide +kernel
theorem dX12_keepAct_26 : decode cX12_keepAct 26 = .ok (.iaload, 1) := by decide +kernel
theorem dX12_keepAct_27 : decode cX12_keepAct 27 = .ok (.iastore, 1) := by decide +kernel
theorem dX12_keepAct_28 : decode cX12_keepAct 28 = .ok (.iinc 1 1, 3) := by decide +kernel
theorem dX12_keepAct_31 : decode cX12_keepAct 31 = .ok (.goto (-29), 3) := by decide +kernel
theorem dX12_keepAct_34 : decode cX12_keepAct 34 = .ok (.aload_n 0, 1) := by decide +kernel
theorem dX12_keepAct_35 : decode cX12_keepAct 35 = .ok (.aload_n 0, 1) := by decide +kernel
theorem dX12_keepAct_36 : decode cX12_keepAct 36 = .ok (.getfield 160, 3) := by decide +kernel
theorem dX12_keepAct_39 : decode cX12_keepAct 39 = .ok (.iconst 1, 1) := by decide +kernel
theorem dX12_keepAct_40 : decode cX12_keepAct 40 = .ok (.iadd, 1) := by decide +kernel
theorem dX12_keepAct_41 : decode cX12_keepAct 41 = .ok (.bipush 14, 2) := by decide +kernel
theorem dX12_keepAct_43 : decode cX12_keepAct 43 = .ok (.irem, 1) := by decide +kernel
theorem dX12_keepAct_44 : decode cX12_keepAct 44 = .ok (.putfield 160, 3) := by decide +kernel
theorem dX12_keepAct_47 : decode cX12_keepAct 47 = .ok (.aload_n 0, 1) := by decide +kernel
theorem dX12_keepAct_48 : decode cX12_keepAct 48 = .ok (.aload_n 0, 1) := by decide +kernel
theorem dX12_keepAct_49 : decode cX12_keepAct 49 = .ok (.getfield 108, 3) := by decide +kernel
theorem dX12_keepAct_52 : decode cX12_keepAct 52 = .ok (.bipush 14, 2) := by decide +kernel
theorem dX12_keepAct_54 : decode cX12_keepAct 54 = .ok (.if_icmp .ge 12, 3) := by decide +kernel
theorem dX12_keepAct_57 : decode cX12_keepAct 57 = .ok (.aload_n 0, 1) := by decide +kernel
theorem dX12_keepAct_58 : decode cX12_keepAct 58 = .ok (.getfield 108, 3) := by decide +kernel
theorem dX12_keepAct_61 : decode cX12_keepAct 61 = .ok (.iconst 1, 1) := by decide +kernel
theorem dX12_keepAct_62 : decode cX12_keepAct 62 = .ok (.iadd, 1) := by decide +kernel
theorem dX12_keepAct_63 : decode cX12_keepAct 63 = .ok (.goto 5, 3) := by decide +kernel
theorem dX12_keepAct_66 : decode cX12_keepAct 66 = .ok (.bipush 14, 2) := by decide +kernel
theorem dX12_keepAct_68 : decode cX12_keepAct 68 = .ok (.putfield 108, 3) := by decide +kernel
theorem dX12_keepAct_71 : decode cX12_keepAct 71 = .ok (.return_, 1) := by decide +kernel
set_option maxRecDepth 20000 in
theorem ggX12_toss_X12_isPerson : GoodIn wsX12_toss wsX12_isPerson := goodIn_r _ [5, 6, 7, 8, 4, 9, 52, 53, 54, 55, 56, 57, 58, 59, 60, 61, 62, 63, 64, 65, 66, 67, 68, 69, 70, 71, 72, 73, 74, 75, 76, 77, 78, 79, 80, 81] (by decide +kernel) (by decide +kernel)
set_option maxRecDepth 20000 in
theorem gX12_toss_X12_isPerson : GoodIn wsX12_toss (wsV RX12 137 RX12 yX12_isPerson wsX12_isPerson) := goodIn_app (goodIn_of _ (by decide +kernel)) ggX12_toss_X12_isPerson
set_option maxRecDepth 20000 in
theorem ggX12_toss_X12_keepAct : GoodIn wsX12_toss wsX12_keepAct := goodIn_r _ [13, 14, 15, 16, 17, 52, 53, 54, 55, 56, 57, 58, 59, 60, 61, 62, 63, 64, 65, 66, 67, 68, 69, 70, 71, 72, 73, 74, 75, 76, 77, 78, 79, 80, 81] (by decide +kernel) (by decide +kernel)
set_option maxRecDepth 20000 in
theorem gX12_toss_X12_keepAct : GoodIn wsX12_toss (wsV RX12 163 RX12 yX12_keepAct wsX12_keepAct) := goodIn_app (goodIn_of _ (by decide +kernel)) ggX12_toss_X12_keepAct
set_option maxRecDepth 20000 in
theorem ggX12_toss_X12_tossBy : GoodIn wsX12_toss wsX12_tossBy := goodIn_r _ [21, 22, 16, 23, 24, 25, 26, 4, 27, 28, 29, 6, 30, 31, 32, 33, 34, 35, 36, 37, 38, 39, 40, 41, 42, 43, 44, 45, 46, 47, 48, 49, 50, 51, 52, 53, 54, 55, 56, 57, 58, 59, 60, 61, 62, 63, 64, 65, 66, 67, 68, 69, 70, 71, 72, 73, 74, 75, 76, 77, 78, 79, 80, 81] (by decide +kernel) (by decide +kernel)
set_option maxRecDepth 20000 in
theorem gX12_toss_X12_tossBy : GoodIn wsX12_toss (wsV RX12 166 RX12 yX12_tossBy wsX12_tossBy) := goodIn_app (goodIn_of _ (by decide +kernel)) ggX12_toss_X12_tossBy
theorem dX12_toss_0 : decode cX12_toss 0 = .ok (.aload_n 0, 1) := by decide +kernel
theorem dX12_toss_1 : decode cX12_toss 1 = .ok (.iload_n 1, 1) := by decide +kernel
theorem dX12_toss_2 : decode cX12_toss 2 = .ok (.invokevirtual 137, 3) := by decide +kernel
theorem dX12_toss_5 : decode cX12_toss 5 = .ok (.ifCond .ne 5, 3) := by decide +kernel
theorem dX12_toss_8 : decode cX12_toss 8 = .ok (.iconst (-1), 1) := by decide +kernel
theorem dX12_toss_9 : decode cX12_toss 9 = .ok (.ireturn, 1) := by decide +kernel
theorem dX12_toss_10 : decode cX12_toss 10 = .ok (.aload_n 0, 1) := by decide +kernel
theorem dX12_toss_11 : decode cX12_toss 11 = .ok (.invokevirtual 163, 3) := by decide +kernel
theorem dX12_toss_14 : decode cX12_toss 14 = .ok (.aload_n 0, 1) := by decide +kernel
theorem dX12_toss_15 : decode cX12_toss 15 = .ok (.iconst 0, 1) := by decide +kernel
theorem dX12_toss_16 : decode cX12_toss 16 = .ok (.iload_n 1, 1) := by decide +kernel
theorem dX12_toss_17 : decode cX12_toss 17 = .ok (.iconst 0, 1) := by decide +kernel
theorem dX12_toss_18 : decode cX12_toss 18 = .ok (.invokevirtual 166, 3) := by decide +kernel
theorem dX12_toss_21 : decode cX12_toss 21 = .ok (.ireturn, 1) := by decide +kernel
set_option maxRecDepth 20000 in
theorem ggX12_calm_X12_keepAct : GoodIn wsX12_calm wsX12_keepAct := goodIn_r _ [6, 7, 8, 1, 9, 16, 17, 18, 19, 20, 21, 22, 23, 24, 25, 26, 27, 28, 29, 30, 31, 32, 33, 34, 35, 36, 37, 38, 39, 40, 41, 42, 43, 44, 45] (by decide +kernel) (by decide +kernel)
set_option maxRecDepth 20000 in
theorem gX12_calm_X12_keepAct : GoodIn wsX12_calm (wsV RX12 163 RX12 yX12_keepAct wsX12_keepAct) := goodIn_app (goodIn_of _ (by decide +kernel)) ggX12_calm_X12_keepAct
set_option maxRecDepth 20000 in
theorem ggX12_calm_X12_windOn : GoodIn wsX12_calm wsX12_windOn := goodIn_r _ [13, 14, 15, 1, 16, 17, 18, 19, 20, 21, 22, 23, 24, 25, 26, 27, 28, 29, 30, 31, 32, 33, 34, 35, 36, 37, 38, 39, 40, 41, 42, 43, 44, 45] (by decide +kernel) (by decide +kernel)
set_option maxRecDepth 20000 in
theorem gX12_calm_X12_windOn : GoodIn wsX12_calm (wsV RX12 111 RX12 yX12_windOn wsX12_windOn) := goodIn_app (goodIn_of _ (by decide +kernel)) ggX12_calm_X12_windOn
theorem dX12_calm_0 : decode cX12_calm 0 = .ok (.aload_n 0, 1) := by decide +kernel
theorem dX12_calm_1 : decode cX12_calm 1 = .ok (.invokevirtual 163, 3) := by decide +kernel
theorem dX12_calm_4 : decode cX12_calm 4 = .ok (.aload_n 0, 1) := by decide +kernel
theorem dX12_calm_5 : decode cX12_calm 5 = .ok (.getfield 25, 3) := by decide +kernel
theorem dX12_calm_8 : decode cX12_calm 8 = .ok (.bipush 8, 2) := by decide +kernel
theorem dX12_calm_10 : decode cX12_calm 10 = .ok (.dup2, 1) := by decide +kernel
theorem dX12_calm_11 : decode cX12_calm 11 = .ok (.iaload, 1) := by decide +kernel
theorem dX12_calm_12 : decode cX12_calm 12 = .ok (.iconst 1, 1) := by decide +kernel
theorem dX12_calm_13 : decode cX12_calm 13 = .ok (.iadd, 1) := by decide +kernel
theorem dX12_calm_14 : decode cX12_calm 14 = .ok (.iastore, 1) := by decide +kernel
theorem dX12_calm_15 : decode cX12_calm 15 = .ok (.aload_n 0, 1) := by decide +kernel
theorem dX12_calm_16 : decode cX12_calm 16 = .ok (.iconst 0, 1) := by decide +kernel
theorem dX12_calm_17 : decode cX12_calm 17 = .ok (.invokevirtual 111, 3) := by decide +kernel
theorem dX12_calm_20 : decode cX12_calm 20 = .ok (.ireturn, 1) := by decide +kernel
set_option maxRecDepth 20000 in
theorem ggX12_canPick_X12_isGrain : GoodIn wsX12_canPick wsX12_isGrain := goodIn_r _ [8, 9, 10, 11, 7, 12, 13, 14, 15, 16, 17, 18, 19, 20, 21, 22, 23, 24, 25, 26, 27, 28, 29, 30, 31, 32, 33, 34, 35, 36, 37, 38, 39, 40, 41, 42] (by decide +kernel) (by decide +kernel)
set_option maxRecDepth 20000 in
theorem gX12_canPick_X12_isGrain : GoodIn wsX12_canPick (wsV RX12 154 RX12 yX12_isGrain wsX12_isGrain) := goodIn_app (goodIn_of _ (by decide +kernel)) ggX12_canPick_X12_isGrain
theorem dX12_canPick_0 : decode cX12_canPick 0 = .ok (.aload_n 0, 1) := by decide +kernel
theorem dX12_canPick_1 : decode cX12_canPick 1 = .ok (.iload_n 2, 1) := by decide +kernel
theorem dX12_canPick_2 : decode cX12_canPick 2 = .ok (.invokevirtual 154, 3) := by decide +kernel
theorem dX12_canPick_5 : decode cX12_canPick 5 = .ok (.ifCond .eq 37, 3) := by decide +kernel
theorem dX12_canPick_8 : decode cX12_canPick 8 = .ok (.aload_n 0, 1) := by decide +kernel
theorem dX12_canPick_9 : decode cX12_canPick 9 = .ok (.getfield 19, 3) := by decide +kernel
theorem dX12_canPick_12 : decode cX12_canPick 12 = .ok (.iload_n 2, 1) := by decide +kernel
theorem dX12_canPick_13 : decode cX12_canPick 13 = .ok (.iaload, 1) := by decide +kernel
theorem dX12_canPick_14 : decode cX12_canPick 14 = .ok (.iconst 3, 1) := by decide +kernel
theorem dX12_canPick_15 : decode cX12_canPick 15 = .ok (.if_icmp .ne 27, 3) := by decide +kernel
theorem dX12_canPick_18 : decode cX12_canPick 18 = .ok (.aload_n 0, 1) := by decide +kernel
theorem dX12_canPick_19 : decode cX12_canPick 19 = .ok (.getfield 25, 3) := by decide +kernel
theorem dX12_canPick_22 : decode cX12_canPick 22 = .ok (.bipush 9, 2) := by decide +kernel
theorem dX12_canPick_24 : decode cX12_canPick 24 = .ok (.iload_n 1, 1) := by decide +kernel
theorem dX12_canPick_25 : decode cX12_canPick 25 = .ok (.imul, 1) := by decide +kernel
theorem dX12_canPick_26 : decode cX12_canPick 26 = .ok (.iload_n 2, 1) := by decide +kernel
theorem dX12_canPick_27 : decode cX12_canPick 27 = .ok (.iadd, 1) := by decide +kernel
theorem dX12_canPick_28 : decode cX12_canPick 28 = .ok (.iaload, 1) := by decide +kernel
theorem dX12_canPick_29 : decode cX12_canPick 29 = .ok (.aload_n 0, 1) := by decide +kernel
theorem dX12_canPick_30 : decode cX12_canPick 30 = .ok (.getfield 22, 3) := by decide +kernel
theorem dX12_canPick_33 : decode cX12_canPick 33 = .ok (.iload_n 2, 1) := by decide +kernel
theorem dX12_canPick_34 : decode cX12_canPick 34 = .ok (.iaload, 1) := by decide +kernel
theorem dX12_canPick_35 : decode cX12_canPick 35 = .ok (.if_icmp .eq 7, 3) := by decide +kernel
theorem dX12_canPick_38 : decode cX12_canPick 38 = .ok (.iconst 1, 1) := by decide +kernel
theorem dX12_canPick_39 : decode cX12_canPick 39 = .ok (.goto 4, 3) := by decide +kernel
theorem dX12_canPick_42 : decode cX12_canPick 42 = .ok (.iconst 0, 1) := by decide +kernel
theorem dX12_canPick_43 : decode cX12_canPick 43 = .ok (.ireturn, 1) := by decide +kernel
set_option maxRecDepth 20000 in
theorem ggX12_pick_X12_isGrain : GoodIn wsX12_pick wsX12_isGrain := goodIn_r _ [7, 8, 9, 10, 6, 11, 24, 25, 26, 27, 28, 29, 30, 31, 32, 33, 34, 35, 36, 37, 38, 39, 40, 41, 42, 43, 44, 45, 46, 47, 48, 49, 50, 51, 52, 53] (by decide +kernel) (by decide +kernel)
set_option maxRecDepth 20000 in
theorem gX12_pick_X12_isGrain : GoodIn wsX12_pick (wsV RX12 154 RX12 yX12_isGrain wsX12_isGrain) := goodIn_app (goodIn_of _ (by decide +kernel)) ggX12_pick_X12_isGrain
set_option maxRecDepth 20000 in
theorem ggX12_pick_X12_canPick : GoodIn wsX12_pick wsX12_canPick := goodIn_r _ [15, 16, 1, 2, 3, 4, 5, 6, 7, 8, 9, 10, 11, 24, 25, 26, 27, 28, 29, 30, 31, 32, 33, 34, 35, 36, 37, 38, 39, 40, 41, 42, 43, 44, 45, 46, 47, 48, 49, 50, 51, 52, 53] (by decide +kernel) (by decide +kernel)
set_option maxRecDepth 20000 in
theorem gX12_pick_X12_canPick : GoodIn wsX12_pick (wsV RX12 169 RX12 yX12_canPick wsX12_canPick) := goodIn_app (goodIn_of _ (by decide +kernel)) ggX12_pick_X12_canPick
set_option maxRecDepth 20000 in
theorem ggX12_pick_X12_keepAct : GoodIn wsX12_pick wsX12_keepAct := goodIn_r _ [20, 21, 22, 1, 23, 24, 25, 26, 27, 28, 29, 30, 31, 32, 33, 34, 35, 36, 37, 38, 39, 40, 41, 42, 43, 44, 45, 46, 47, 48, 49, 50, 51, 52, 53] (by decide +kernel) (by decide +kernel)
set_option maxRecDepth 20000 in
theorem gX12_pick_X12_keepAct : GoodIn wsX12_pick (wsV RX12 163 RX12 yX12_keepAct wsX12_keepAct) := goodIn_app (goodIn_of _ (by decide +kernel)) ggX12_pick_X12_keepAct
theorem dX12_pick_0 : decode cX12_pick 0 = .ok (.aload_n 0, 1) := by decide +kernel
theorem dX12_pick_1 : decode cX12_pick 1 = .ok (.iload_n 1, 1) := by decide +kernel
theorem dX12_pick_2 : decode cX12_pick 2 = .ok (.invokevirtual 154, 3) := by decide +kernel
theorem dX12_pick_5 : decode cX12_pick 5 = .ok (.ifCond .ne 5, 3) := by decide +kernel
theorem dX12_pick_8 : decode cX12_pick 8 = .ok (.iconst (-1), 1) := by decide +kernel
theorem dX12_pick_9 : decode cX12_pick 9 = .ok (.ireturn, 1) := by decide +kernel
theorem dX12_pick_10 : decode cX12_pick 10 = .ok (.aload_n 0, 1) := by decide +kernel
theorem dX12_pick_11 : decode cX12_pick 11 = .ok (.iconst 0, 1) := by decide +kernel
theorem dX12_pick_12 : decode cX12_pick 12 = .ok (.iload_n 1, 1) := by decide +kernel
theorem dX12_pick_13 : decode cX12_pick 13 = .ok (.invokevirtual 169, 3) := by decide +kernel
theorem dX12_pick_16 : decode cX12_pick 16 = .ok (.ifCond .ne 6, 3) := by decide +kernel
theorem dX12_pick_19 : decode cX12_pick 19 = .ok (.bipush (-3), 2) := by decide +kernel
theorem dX12_pick_21 : decode cX12_pick 21 = .ok (.ireturn, 1) := by decide +kernel
theorem dX12_pick_22 : decode cX12_pick 22 = .ok (.aload_n 0, 1) := by decide +kernel
theorem dX12_pick_23 : decode cX12_pick 23 = .ok (.invokevirtual 163, 3) := by decide +kernel
theorem dX12_pick_26 : decode cX12_pick 26 = .ok (.aload_n 0, 1) := by decide +kernel
theorem dX12_pick_27 : decode cX12_pick 27 = .ok (.getfield 25, 3) := by decide +kernel
theorem dX12_pick_30 : decode cX12_pick 30 = .ok (.iload_n 1, 1) := by decide +kernel
theorem dX12_pick_31 : decode cX12_pick 31 = .ok (.iaload, 1) := by decide +kernel
theorem dX12_pick_32 : decode cX12_pick 32 = .ok (.istore_n 2, 1) := by decide +kernel
theorem dX12_pick_33 : decode cX12_pick 33 = .ok (.aload_n 0, 1) := by decide +kernel
theorem dX12_pick_34 : decode cX12_pick 34 = .ok (.getfield 25, 3) := by decide +kernel
theorem dX12_pick_37 : decode cX12_pick 37 = .ok (.iload_n 1, 1) := by decide +kernel
theorem dX12_pick_38 : decode cX12_pick 38 = .ok (.aload_n 0, 1) := by decide +kernel
theorem dX12_pick_39 : decode cX12_pick 39 = .ok (.getfield 22, 3) := by decide +kernel
theorem dX12_pick_42 : decode cX12_pick 42 = .ok (.iload_n 1, 1) := by decide +kernel
theorem dX12_pick_43 : decode cX12_pick 43 = .ok (.iaload, 1) := by decide +kernel
theorem dX12_pick_44 : decode cX12_pick 44 = .ok (.iastore, 1) := by decide +kernel
theorem dX12_pick_45 : decode cX12_pick 45 = .ok (.iload_n 2, 1) := by decide +kernel
theorem dX12_pick_46 : decode cX12_pick 46 = .ok (.ireturn, 1) := by decide +kernel
set_option maxRecDepth 20000 in
theorem ggX12_fan_X12_isPerson : GoodIn wsX12_fan wsX12_isPerson := goodIn_r _ [6, 7, 8, 9, 5, 10, 18, 19, 20, 21, 22, 23, 24, 25, 26, 27, 28, 29, 30, 31, 32, 33, 34, 35, 36, 37, 38, 39, 40, 41, 42, 43, 44, 45, 46, 47] (by decide +kernel) (by decide +kernel)
set_option maxRecDepth 20000 in
theorem gX12_fan_X12_isPerson : GoodIn wsX12_fan (wsV RX12 137 RX12 yX12_isPerson wsX12_isPerson) := goodIn_app (goodIn_of _ (by decide +kernel)) ggX12_fan_X12_isPerson
set_option maxRecDepth 20000 in
theorem ggX12_fan_X12_keepAct : GoodIn wsX12_fan wsX12_keepAct := goodIn_r _ [14, 15, 16, 1, 17, 18, 19, 20, 21, 22, 23, 24, 25, 26, 27, 28, 29, 30, 31, 32, 33, 34, 35, 36, 37, 38, 39, 40, 41, 42, 43, 44, 45, 46, 47] (by decide +kernel) (by decide +kernel)
set_option maxRecDepth 20000 in
theorem gX12_fan_X12_keepAct : GoodIn wsX12_fan (wsV RX12 163 RX12 yX12_keepAct wsX12_keepAct) := goodIn_app (goodIn_of _ (by decide +kernel)) ggX12_fan_X12_keepAct
theorem dX12_fan_0 : decode cX12_fan 0 = .ok (.aload_n 0, 1) := by decide +kernel
theorem dX12_fan_1 : decode cX12_fan 1 = .ok (.iload_n 1, 1) := by decide +kernel
theorem dX12_fan_2 : decode cX12_fan 2 = .ok (.invokevirtual 137, 3) := by decide +kernel
theorem dX12_fan_5 : decode cX12_fan 5 = .ok (.ifCond .ne 5, 3) := by decide +kernel
theorem dX12_fan_8 : decode cX12_fan 8 = .ok (.iconst (-1), 1) := by decide +kernel
theorem dX12_fan_9 : decode cX12_fan 9 = .ok (.ireturn, 1) := by decide +kernel
theorem dX12_fan_10 : decode cX12_fan 10 = .ok (.aload_n 0, 1) := by decide +kernel
theorem dX12_fan_11 : decode cX12_fan 11 = .ok (.getfield 25, 3) := by decide +kernel
theorem dX12_fan_14 : decode cX12_fan 14 = .ok (.bipush 7, 2) := by decide +kernel
theorem dX12_fan_16 : decode cX12_fan 16 = .ok (.iaload, 1) := by decide +kernel
theorem dX12_fan_17 : decode cX12_fan 17 = .ok (.istore_n 2, 1) := by decide +kernel
theorem dX12_fan_18 : decode cX12_fan 18 = .ok (.iload_n 2, 1) := by decide +kernel
theorem dX12_fan_19 : decode cX12_fan 19 = .ok (.iload_n 1, 1) := by decide +kernel
theorem dX12_fan_20 : decode cX12_fan 20 = .ok (.if_icmp .ne 6, 3) := by decide +kernel
theorem dX12_fan_23 : decode cX12_fan 23 = .ok (.bipush (-3), 2) := by decide +kernel
theorem dX12_fan_25 : decode cX12_fan 25 = .ok (.ireturn, 1) := by decide +kernel
theorem dX12_fan_26 : decode cX12_fan 26 = .ok (.aload_n 0, 1) := by decide +kernel
theorem dX12_fan_27 : decode cX12_fan 27 = .ok (.invokevirtual 163, 3) := by decide +kernel
theorem dX12_fan_30 : decode cX12_fan 30 = .ok (.aload_n 0, 1) := by decide +kernel
theorem dX12_fan_31 : decode cX12_fan 31 = .ok (.getfield 25, 3) := by decide +kernel
theorem dX12_fan_34 : decode cX12_fan 34 = .ok (.bipush 7, 2) := by decide +kernel
theorem dX12_fan_36 : decode cX12_fan 36 = .ok (.iload_n 1, 1) := by decide +kernel
theorem dX12_fan_37 : decode cX12_fan 37 = .ok (.iastore, 1) := by decide +kernel
theorem dX12_fan_38 : decode cX12_fan 38 = .ok (.iload_n 2, 1) := by decide +kernel
theorem dX12_fan_39 : decode cX12_fan 39 = .ok (.ireturn, 1) := by decide +kernel
theorem dX12_undo_0 : decode cX12_undo 0 = .ok (.aload_n 0, 1) := by decide +kernel
theorem dX12_undo_1 : decode cX12_undo 1 = .ok (.getfield 108, 3) := by decide +kernel
theorem dX12_undo_4 : decode cX12_undo 4 = .ok (.ifCond .ne 6, 3) := by decide +kernel
theorem dX12_undo_7 : decode cX12_undo 7 = .ok (.bipush (-3), 2) := by decide +kernel
theorem dX12_undo_9 : decode cX12_undo 9 = .ok (.ireturn, 1) := by decide +kernel
theorem dX12_undo_10 : decode cX12_undo 10 = .ok (.aload_n 0, 1) := by decide +kernel
theorem dX12_undo_11 : decode cX12_undo 11 = .ok (.dup, 1) := by decide +kernel
theorem dX12_undo_12 : decode cX12_undo 12 = .ok (.getfield 108, 3) := by decide +kernel
theorem dX12_undo_15 : decode cX12_undo 15 = .ok (.iconst 1, 1) := by decide +kernel
theorem dX12_undo_16 : decode cX12_undo 16 = .ok (.isub, 1) := by decide +kernel
theorem dX12_undo_17 : decode cX12_undo 17 = .ok (.putfield 108, 3) := by decide +kernel
theorem dX12_undo_20 : decode cX12_undo 20 = .ok (.aload_n 0, 1) := by decide +kernel
theorem dX12_undo_21 : decode cX12_undo 21 = .ok (.aload_n 0, 1) := by decide +kernel
theorem dX12_undo_22 : decode cX12_undo 22 = .ok (.getfield 160, 3) := by decide +kernel
theorem dX12_undo_25 : decode cX12_undo 25 = .ok (.bipush 13, 2) := by decide +kernel
theorem dX12_undo_27 : decode cX12_undo 27 = .ok (.iadd, 1) := by decide +kernel
theorem dX12_undo_28 : decode cX12_undo 28 = .ok (.bipush 14, 2) := by decide +kernel
theorem dX12_undo_30 : decode cX12_undo 30 = .ok (.irem, 1) := by decide +kernel
theorem dX12_undo_31 : decode cX12_undo 31 = .ok (.putfield 160, 3) := by decide +kernel
theorem dX12_undo_34 : decode cX12_undo 34 = .ok (.iconst 0, 1) := by decide +kernel
theorem dX12_undo_35 : decode cX12_undo 35 = .ok (.istore_n 1, 1) := by decide +kernel
theorem dX12_undo_36 : decode cX12_undo 36 = .ok (.iload_n 1, 1) := by decide +kernel
theorem dX12_undo_37 : decode cX12_undo 37 = .ok (.bipush 9, 2) := by decide +kernel
theorem dX12_undo_39 : decode cX12_undo 39 = .ok (.if_icmp .ge 29, 3) := by decide +kernel
theorem dX12_undo_42 : decode cX12_undo 42 = .ok (.aload_n 0, 1) := by decide +kernel
theorem dX12_undo_43 : decode cX12_undo 43 = .ok (.getfield 25, 3) := by decide +kernel
theorem dX12_undo_46 : decode cX12_undo 46 = .ok (.iload_n 1, 1) := by decide +kernel
theorem dX12_undo_47 : decode cX12_undo 47 = .ok (.aload_n 0, 1) := by decide +kernel
theorem dX12_undo_48 : decode cX12_undo 48 = .ok (.getfield 43, 3) := by decide +kernel
theorem dX12_undo_51 : decode cX12_undo 51 = .ok (.bipush 9, 2) := by decide +kernel
theorem dX12_undo_53 : decode cX12_undo 53 = .ok (.aload_n 0, 1) := by decide +kernel
theorem dX12_undo_54 : decode cX12_undo 54 = .ok (.getfield 160, 3) := by decide +kernel
theorem dX12_undo_57 : decode cX12_undo 57 = .ok (.imul, 1) := by decide +kernel
theorem dX12_undo_58 : decode cX12_undo 58 = .ok (.iload_n 1, 1) := by decide +kernel
theorem dX12_undo_59 : decode cX12_undo 59 = .ok (.iadd, 1) := by decide +kernel
theorem dX12_undo_60 : decode cX12_undo 60 = .ok (.iaload, 1) := by decide +kernel
theorem dX12_undo_61 : decode cX12_undo 61 = .ok (.iastore, 1) := by decide +kernel
theorem dX12_undo_62 : decode cX12_undo 62 = .ok (.iinc 1 1, 3) := by decide +kernel
theorem dX12_undo_65 : decode cX12_undo 65 = .ok (.goto (-29), 3) := by decide +kernel
theorem dX12_undo_68 : decode cX12_undo 68 = .ok (.aload_n 0, 1) := by decide +kernel
theorem dX12_undo_69 : decode cX12_undo 69 = .ok (.getfield 108, 3) := by decide +kernel
theorem dX12_undo_72 : decode cX12_undo 72 = .ok (.ireturn, 1) := by decide +kernel
theorem dX12_layTrial_0 : decode cX12_layTrial 0 = .ok (.iconst 0, 1) := by decide +kernel
theorem dX12_layTrial_1 : decode cX12_layTrial 1 = .ok (.istore_n 1, 1) := by decide +kernel
theorem dX12_layTrial_2 : decode cX12_layTrial 2 = .ok (.iload_n 1, 1) := by decide +kernel
theorem dX12_layTrial_3 : decode cX12_layTrial 3 = .ok (.bipush 9, 2) := by decide +kernel
theorem dX12_layTrial_5 : decode cX12_layTrial 5 = .ok (.if_icmp .ge 24, 3) := by decide +kernel
theorem dX12_layTrial_8 : decode cX12_layTrial 8 = .ok (.aload_n 0, 1) := by decide +kernel
theorem dX12_layTrial_9 : decode cX12_layTrial 9 = .ok (.getfield 25, 3) := by decide +kernel
theorem dX12_layTrial_12 : decode cX12_layTrial 12 = .ok (.bipush 9, 2) := by decide +kernel
theorem dX12_layTrial_14 : decode cX12_layTrial 14 = .ok (.iload_n 1, 1) := by decide +kernel
theorem dX12_layTrial_15 : decode cX12_layTrial 15 = .ok (.iadd, 1) := by decide +kernel
theorem dX12_layTrial_16 : decode cX12_layTrial 16 = .ok (.aload_n 0, 1) := by decide +kernel
theorem dX12_layTrial_17 : decode cX12_layTrial 17 = .ok (.getfield 25, 3) := by decide +kernel
theorem dX12_layTrial_20 : decode cX12_layTrial 20 = .ok (.iload_n 1, 1) := by decide +kernel
theorem dX12_layTrial_21 : decode cX12_layTrial 21 = .ok (.iaload, 1) := by decide +kernel
theorem dX12_layTrial_22 : decode cX12_layTrial 22 = .ok (.iastore, 1) := by decide +kernel
theorem dX12_layTrial_23 : decode cX12_layTrial 23 = .ok (.iinc 1 1, 3) := by decide +kernel
theorem dX12_layTrial_26 : decode cX12_layTrial 26 = .ok (.goto (-24), 3) := by decide +kernel
theorem dX12_layTrial_29 : decode cX12_layTrial 29 = .ok (.return_, 1) := by decide +kernel
theorem dX12_power_0 : decode cX12_power 0 = .ok (.iconst 1, 1) := by decide +kernel
theorem dX12_power_1 : decode cX12_power 1 = .ok (.istore_n 2, 1) := by decide +kernel
theorem dX12_power_2 : decode cX12_power 2 = .ok (.iconst 0, 1) := by decide +kernel
theorem dX12_power_3 : decode cX12_power 3 = .ok (.istore_n 3, 1) := by decide +kernel
theorem dX12_power_4 : decode cX12_power 4 = .ok (.iload_n 3, 1) := by decide +kernel
theorem dX12_power_5 : decode cX12_power 5 = .ok (.iload_n 1, 1) := by decide +kernel
theorem dX12_power_6 : decode cX12_power 6 = .ok (.if_icmp .ge 13, 3) := by decide +kernel
theorem dX12_power_9 : decode cX12_power 9 = .ok (.iload_n 2, 1) := by decide +kernel
theorem dX12_power_10 : decode cX12_power 10 = .ok (.iload_n 0, 1) := by decide +kernel
theorem dX12_power_11 : decode cX12_power 11 = .ok (.imul, 1) := by decide +kernel
theorem dX12_power_12 : decode cX12_power 12 = .ok (.istore_n 2, 1) := by decide +kernel
theorem dX12_power_13 : decode cX12_power 13 = .ok (.iinc 3 1, 3) := by decide +kernel
theorem dX12_power_16 : decode cX12_power 16 = .ok (.goto (-12), 3) := by decide +kernel
theorem dX12_power_19 : decode cX12_power 19 = .ok (.iload_n 2, 1) := by decide +kernel
theorem dX12_power_20 : decode cX12_power 20 = .ok (.ireturn, 1) := by decide +kernel
set_option maxRecDepth 20000 in
theorem ggX12_turn_X12_isPerson : GoodIn wsX12_turn wsX12_isPerson := goodIn_r _ [6, 7, 8, 9, 5, 10, 45, 46, 47, 48, 49, 50, 51, 52, 53, 54, 55, 56, 57, 58, 59, 60, 61, 62, 63, 64, 65, 66, 67, 68, 69, 70, 71, 72, 73, 74] (by decide +kernel) (by decide +kernel)
set_option maxRecDepth 20000 in
theorem gX12_turn_X12_isPerson : GoodIn wsX12_turn (wsV RX12 137 RX12 yX12_isPerson wsX12_isPerson) := goodIn_app (goodIn_of _ (by decide +kernel)) ggX12_turn_X12_isPerson
set_option maxRecDepth 20000 in
theorem ggX12_turn_X12_tossBy : GoodIn wsX12_turn wsX12_tossBy := goodIn_r _ [14, 15, 1, 16, 17, 18, 19, 5, 20, 21, 22, 7, 23, 24, 25, 26, 27, 28, 29, 30, 31, 32, 33, 34, 35, 36, 37, 38, 39, 40, 41, 42, 43, 44, 45, 46, 47, 48, 49, 50, 51, 52, 53, 54, 55, 56, 57, 58, 59, 60, 61, 62, 63, 64, 65, 66, 67, 68, 69, 70, 71, 72, 73, 74] (by decide +kernel) (by decide +kernel)
set_option maxRecDepth 20000 in
theorem gX12_turn_X12_tossBy : GoodIn wsX12_turn (wsV RX12 166 RX12 yX12_tossBy wsX12_tossBy) := goodIn_app (goodIn_of _ (by decide +kernel)) ggX12_turn_X12_tossBy
theorem dX12_turn_0 : decode cX12_turn 0 = .ok (.iload_n 1, 1) := by decide +kernel
theorem dX12_turn_1 : decode cX12_turn 1 = .ok (.iconst 4, 1) := by decide +kernel
theorem dX12_turn_2 : decode cX12_turn 2 = .ok (.if_icmp .ne 16, 3) := by decide +kernel
theorem dX12_turn_5 : decode cX12_turn 5 = .ok (.aload_n 0, 1) := by decide +kernel
theorem dX12_turn_6 : decode cX12_turn 6 = .ok (.getfield 25, 3) := by decide +kernel
theorem dX12_turn_9 : decode cX12_turn 9 = .ok (.bipush 17, 2) := by decide +kernel
theorem dX12_turn_11 : decode cX12_turn 11 = .ok (.dup2, 1) := by decide +kernel
theorem dX12_turn_12 : decode cX12_turn 12 = .ok (.iaload, 1) := by decide +kernel
theorem dX12_turn_13 : decode cX12_turn 13 = .ok (.iconst 1, 1) := by decide +kernel
theorem dX12_turn_14 : decode cX12_turn 14 = .ok (.iadd, 1) := by decide +kernel
theorem dX12_turn_15 : decode cX12_turn 15 = .ok (.iastore, 1) := by decide +kernel
theorem dX12_turn_16 : decode cX12_turn 16 = .ok (.iconst 1, 1) := by decide +kernel
theorem dX12_turn_17 : decode cX12_turn 17 = .ok (.ireturn, 1) := by decide +kernel
theorem dX12_turn_18 : decode cX12_turn 18 = .ok (.aload_n 0, 1) := by decide +kernel
theorem dX12_turn_19 : decode cX12_turn 19 = .ok (.iload_n 1, 1) := by decide +kernel
theorem dX12_turn_20 : decode cX12_turn 20 = .ok (.invokevirtual 137, 3) := by decide +kernel
theorem dX12_turn_23 : decode cX12_turn 23 = .ok (.ifCond .eq 13, 3) := by decide +kernel
theorem dX12_turn_26 : decode cX12_turn 26 = .ok (.aload_n 0, 1) := by decide +kernel
theorem dX12_turn_27 : decode cX12_turn 27 = .ok (.iconst 1, 1) := by decide +kernel
theorem dX12_turn_28 : decode cX12_turn 28 = .ok (.iload_n 1, 1) := by decide +kernel
theorem dX12_turn_29 : decode cX12_turn 29 = .ok (.iconst 0, 1) := by decide +kernel
theorem dX12_turn_30 : decode cX12_turn 30 = .ok (.invokevirtual 166, 3) := by decide +kernel
theorem dX12_turn_33 : decode cX12_turn 33 = .ok (.pop, 1) := by decide +kernel
theorem dX12_turn_34 : decode cX12_turn 34 = .ok (.iconst 1, 1) := by decide +kernel
theorem dX12_turn_35 : decode cX12_turn 35 = .ok (.ireturn, 1) := by decide +kernel
theorem dX12_turn_36 : decode cX12_turn 36 = .ok (.iconst 0, 1) := by decide +kernel
theorem dX12_turn_37 : decode cX12_turn 37 = .ok (.ireturn, 1) := by decide +kernel
set_option maxRecDepth 20000 in
theorem ggX12_doRow_X12_layTrial : GoodIn wsX12_doRow wsX12_layTrial := goodIn_r _ [5, 6, 56, 57, 58, 59, 60, 61, 62, 63, 64, 65, 66, 67, 68, 69, 70, 71, 72, 73, 74, 75, 76, 77, 78, 79, 80, 81, 82, 83, 84, 85] (by decide +kernel) (by decide +kernel)
set_option maxRecDepth 20000 in
theorem gX12_doRow_X12_layTrial : GoodIn wsX12_doRow (wsV RX12 172 RX12 yX12_layTrial wsX12_layTrial) := goodIn_app (goodIn_of _ (by decide +kernel)) ggX12_doRow_X12_layTrial
set_option maxRecDepth 20000 in
theorem ggX12_doRow_X12_power : GoodIn wsX12_doRow wsX12_power := goodIn_r _ [9] (by decide +kernel) (by decide +kernel)
set_option maxRecDepth 20000 in
theorem gX12_doRow_X12_power : GoodIn wsX12_doRow (va_wsS RX12 175 yX12_power wsX12_power) := goodIn_app (goodIn_of _ (by decide +kernel)) ggX12_doRow_X12_power
set_option maxRecDepth 20000 in
theorem ggX12_doRow_X12_turn : GoodIn wsX12_doRow wsX12_turn := goodIn_r _ [13, 6, 14, 15, 16, 4, 17, 18, 19, 20, 21, 22, 23, 24, 25, 26, 27, 28, 29, 30, 31, 32, 33, 34, 35, 36, 37, 38, 39, 40, 41, 42, 43, 44, 45, 46, 47, 48, 49, 50, 51, 52, 53, 54, 55, 56, 57, 58, 59, 60, 61, 62, 63, 64, 65, 66, 67, 68, 69, 70, 71, 72, 73, 74, 75, 76, 77, 78, 79, 80, 81, 82, 83, 84, 85] (by decide +kernel) (by decide +kernel)
set_option maxRecDepth 20000 in
theorem gX12_doRow_X12_turn : GoodIn wsX12_doRow (wsV RX12 178 RX12 yX12_turn wsX12_turn) := goodIn_app (goodIn_of _ (by decide +kernel)) ggX12_doRow_X12_turn
theorem dX12_doRow_0 : decode cX12_doRow 0 = .ok (.aload_n 0, 1) := by decide +kernel
theorem dX12_doRow_1 : decode cX12_doRow 1 = .ok (.invokevirtual 172, 3) := by decide +kernel
theorem dX12_doRow_4 : decode cX12_doRow 4 = .ok (.iconst 0, 1) := by decide +kernel
theorem dX12_doRow_5 : decode cX12_doRow 5 = .ok (.istore_n 3, 1) := by decide +kernel
theorem dX12_doRow_6 : decode cX12_doRow 6 = .ok (.iload_n 3, 1) := by decide +kernel
theorem dX12_doRow_7 : decode cX12_doRow 7 = .ok (.iload_n 1, 1) := by decide +kernel
theorem dX12_doRow_8 : decode cX12_doRow 8 = .ok (.if_icmp .ge 31, 3) := by decide +kernel
theorem dX12_doRow_11 : decode cX12_doRow 11 = .ok (.aload_n 0, 1) := by decide +kernel
theorem dX12_doRow_12 : decode cX12_doRow 12 = .ok (.iload_n 2, 1) := by decide +kernel
theorem dX12_doRow_13 : decode cX12_doRow 13 = .ok (.iconst 5, 1) := by decide +kernel
theorem dX12_doRow_14 : decode cX12_doRow 14 = .ok (.iload_n 1, 1) := by decide +kernel
theorem dX12_doRow_15 : decode cX12_doRow 15 = .ok (.iconst 1, 1) := by decide +kernel
theorem dX12_doRow_16 : decode cX12_doRow 16 = .ok (.isub, 1) := by decide +kernel
theorem dX12_doRow_17 : decode cX12_doRow 17 = .ok (.iload_n 3, 1) := by decide +kernel
theorem dX12_doRow_18 : decode cX12_doRow 18 = .ok (.isub, 1) := by decide +kernel
theorem dX12_doRow_19 : decode cX12_doRow 19 = .ok (.invokestatic 175, 3) := by decide +kernel
theorem dX12_doRow_22 : decode cX12_doRow 22 = .ok (.idiv, 1) := by decide +kernel
theorem dX12_doRow_23 : decode cX12_doRow 23 = .ok (.iconst 5, 1) := by decide +kernel
theorem dX12_doRow_24 : decode cX12_doRow 24 = .ok (.irem, 1) := by decide +kernel
theorem dX12_doRow_25 : decode cX12_doRow 25 = .ok (.invokevirtual 178, 3) := by decide +kernel
theorem dX12_doRow_28 : decode cX12_doRow 28 = .ok (.ifCond .ne 5, 3) := by decide +kernel
theorem dX12_doRow_31 : decode cX12_doRow 31 = .ok (.iconst 0, 1) := by decide +kernel
theorem dX12_doRow_32 : decode cX12_doRow 32 = .ok (.ireturn, 1) := by decide +kernel
theorem dX12_doRow_33 : decode cX12_doRow 33 = .ok (.iinc 3 1, 3) := by decide +kernel
theorem dX12_doRow_36 : decode cX12_doRow 36 = .ok (.goto (-30), 3) := by decide +kernel
theorem dX12_doRow_39 : decode cX12_doRow 39 = .ok (.iconst 1, 1) := by decide +kernel
theorem dX12_doRow_40 : decode cX12_doRow 40 = .ok (.ireturn, 1) := by decide +kernel
set_option maxRecDepth 20000 in
theorem ggX12_best_X12_in : GoodIn wsX12_best wsX12_in := goodIn_r _ [5] (by decide +kernel) (by decide +kernel)
set_option maxRecDepth 20000 in
theorem gX12_best_X12_in : GoodIn wsX12_best (va_wsS RX12 64 yX12_in wsX12_in) := goodIn_app (goodIn_of _ (by decide +kernel)) ggX12_best_X12_in
set_option maxRecDepth 20000 in
theorem ggX12_best_X12_power : GoodIn wsX12_best wsX12_power := goodIn_r _ [8] (by decide +kernel) (by decide +kernel)
set_option maxRecDepth 20000 in
theorem gX12_best_X12_power : GoodIn wsX12_best (va_wsS RX12 175 yX12_power wsX12_power) := goodIn_app (goodIn_of _ (by decide +kernel)) ggX12_best_X12_power
set_option maxRecDepth 20000 in
theorem ggX12_best_X12_doRow : GoodIn wsX12_best wsX12_doRow := goodIn_r _ [12, 13, 14, 15, 4, 16, 17, 6, 7, 8, 18, 19, 20, 21, 22, 23, 24, 25, 26, 2, 3, 5, 27, 28, 29, 30, 31, 32, 33, 34, 35, 36, 37, 38, 39, 40, 41, 42, 43, 44, 45, 46, 47, 48, 49, 50, 51, 52, 53, 54, 55, 56, 57, 58, 59, 60, 68, 69, 70, 71, 72, 73, 74, 75, 76, 77, 78, 79, 80, 81, 82, 83, 84, 85, 86, 87, 88, 89, 90, 91, 92, 93, 94, 95, 96, 97] (by decide +kernel) (by decide +kernel)
set_option maxRecDepth 20000 in
theorem gX12_best_X12_doRow : GoodIn wsX12_best (wsV RX12 183 RX12 yX12_doRow wsX12_doRow) := goodIn_app (goodIn_of _ (by decide +kernel)) ggX12_best_X12_doRow
set_option maxRecDepth 20000 in
theorem ggX12_best_X12_rightOn : GoodIn wsX12_best wsX12_rightOn := goodIn_r _ [64, 31, 17, 53, 68, 69, 70, 71, 72, 73, 74, 75, 76, 77, 78, 79, 80, 81, 82, 83, 84, 85, 86, 87, 88, 89, 90, 91, 92, 93, 94, 95, 96, 97] (by decide +kernel) (by decide +kernel)
set_option maxRecDepth 20000 in
theorem gX12_best_X12_rightOn : GoodIn wsX12_best (wsV RX12 134 RX12 yX12_rightOn wsX12_rightOn) := goodIn_app (goodIn_of _ (by decide +kernel)) ggX12_best_X12_rightOn
set_option maxRecDepth 20000 in
theorem ggX12_best_X12_ones : GoodIn wsX12_best wsX12_ones := goodIn_r _ [67] (by decide +kernel) (by decide +kernel)
set_option maxRecDepth 20000 in
theorem gX12_best_X12_ones : GoodIn wsX12_best (va_wsS RX12 186 yX12_ones wsX12_ones) := goodIn_app (goodIn_of _ (by decide +kernel)) ggX12_best_X12_ones
theorem dX12_best_0 : decode cX12_best 0 = .ok (.iload_n 1, 1) := by decide +kernel
theorem dX12_best_1 : decode cX12_best 1 = .ok (.i2l, 1) := by decide +kernel
theorem dX12_best_2 : decode cX12_best 2 = .ok (.lconst 1, 1) := by decide +kernel
theorem dX12_best_3 : decode cX12_best 3 = .ok (.ldc2_w 181, 3) := by decide +kernel
theorem dX12_best_6 : decode cX12_best 6 = .ok (.invokestatic 64, 3) := by decide +kernel
theorem dX12_best_9 : decode cX12_best 9 = .ok (.ifCond .ne 6, 3) := by decide +kernel
theorem dX12_best_12 : decode cX12_best 12 = .ok (.bipush (-2), 2) := by decide +kernel
theorem dX12_best_14 : decode cX12_best 14 = .ok (.ireturn, 1) := by decide +kernel
theorem dX12_best_15 : decode cX12_best 15 = .ok (.bipush (-9), 2) := by decide +kernel
theorem dX12_best_17 : decode cX12_best 17 = .ok (.istore_n 3, 1) := by decide +kernel
theorem dX12_best_18 : decode cX12_best 18 = .ok (.iconst 0, 1) := by decide +kernel
theorem dX12_best_19 : decode cX12_best 19 = .ok (.istore 4, 2) := by decide +kernel
theorem dX12_best_21 : decode cX12_best 21 = .ok (.iconst 0, 1) := by decide +kernel
theorem dX12_best_22 : decode cX12_best 22 = .ok (.istore 5, 2) := by decide +kernel
theorem dX12_best_24 : decode cX12_best 24 = .ok (.iload 5, 2) := by decide +kernel
theorem dX12_best_26 : decode cX12_best 26 = .ok (.iconst 5, 1) := by decide +kernel
theorem dX12_best_27 : decode cX12_best 27 = .ok (.iload_n 1, 1) := by decide +kernel
theorem dX12_best_28 : decode cX12_best 28 = .ok (.invokestatic 175, 3) := by decide +kernel
theorem dX12_best_31 : decode cX12_best 31 = .ok (.if_icmp .ge 44, 3) := by decide +kernel
theorem dX12_best_34 : decode cX12_best 34 = .ok (.aload_n 0, 1) := by decide +kernel
theorem dX12_best_35 : decode cX12_best 35 = .ok (.iload_n 1, 1) := by decide +kernel
theorem dX12_best_36 : decode cX12_best 36 = .ok (.iload 5, 2) := by decide +kernel
theorem dX12_best_38 : decode cX12_best 38 = .ok (.invokevirtual 183, 3) := by decide +kernel
theorem dX12_best_41 : decode cX12_best 41 = .ok (.ifCond .eq 28, 3) := by decide +kernel
theorem dX12_best_44 : decode cX12_best 44 = .ok (.aload_n 0, 1) := by decide +kernel
theorem dX12_best_45 : decode cX12_best 45 = .ok (.iconst 1, 1) := by decide +kernel
theorem dX12_best_46 : decode cX12_best 46 = .ok (.invokevirtual 134, 3) := by decide +kernel
theorem dX12_best_49 : decode cX12_best 49 = .ok (.invokestatic 186, 3) := by decide +kernel
theorem dX12_best_52 : decode cX12_best 52 = .ok (.iload_n 3, 1) := by decide +kernel
theorem dX12_best_53 : decode cX12_best 53 = .ok (.if_icmp .le 16, 3) := by decide +kernel
theorem dX12_best_56 : decode cX12_best 56 = .ok (.aload_n 0, 1) := by decide +kernel
theorem dX12_best_57 : decode cX12_best 57 = .ok (.iconst 1, 1) := by decide +kernel
theorem dX12_best_58 : decode cX12_best 58 = .ok (.invokevirtual 134, 3) := by decide +kernel
theorem dX12_best_61 : decode cX12_best 61 = .ok (.invokestatic 186, 3) := by decide +kernel
theorem dX12_best_64 : decode cX12_best 64 = .ok (.istore_n 3, 1) := by decide +kernel
theorem dX12_best_65 : decode cX12_best 65 = .ok (.iload 5, 2) := by decide +kernel
theorem dX12_best_67 : decode cX12_best 67 = .ok (.istore 4, 2) := by decide +kernel
theorem dX12_best_69 : decode cX12_best 69 = .ok (.iinc 5 1, 3) := by decide +kernel
theorem dX12_best_72 : decode cX12_best 72 = .ok (.goto (-48), 3) := by decide +kernel
theorem dX12_best_75 : decode cX12_best 75 = .ok (.iconst 1, 1) := by decide +kernel
theorem dX12_best_76 : decode cX12_best 76 = .ok (.istore 5, 2) := by decide +kernel
theorem dX12_best_78 : decode cX12_best 78 = .ok (.iconst 0, 1) := by decide +kernel
theorem dX12_best_79 : decode cX12_best 79 = .ok (.istore 6, 2) := by decide +kernel
theorem dX12_best_81 : decode cX12_best 81 = .ok (.iload 6, 2) := by decide +kernel
theorem dX12_best_83 : decode cX12_best 83 = .ok (.iload_n 1, 1) := by decide +kernel
theorem dX12_best_84 : decode cX12_best 84 = .ok (.if_icmp .ge 32, 3) := by decide +kernel
theorem dX12_best_87 : decode cX12_best 87 = .ok (.bipush 10, 2) := by decide +kernel
theorem dX12_best_89 : decode cX12_best 89 = .ok (.iload 5, 2) := by decide +kernel
theorem dX12_best_91 : decode cX12_best 91 = .ok (.imul, 1) := by decide +kernel
theorem dX12_best_92 : decode cX12_best 92 = .ok (.iload 4, 2) := by decide +kernel
theorem dX12_best_94 : decode cX12_best 94 = .ok (.iconst 5, 1) := by decide +kernel
theorem dX12_best_95 : decode cX12_best 95 = .ok (.iload_n 1, 1) := by decide +kernel
theorem dX12_best_96 : decode cX12_best 96 = .ok (.iconst 1, 1) := by decide +kernel
theorem dX12_best_97 : decode cX12_best 97 = .ok (.isub, 1) := by decide +kernel
theorem dX12_best_98 : decode cX12_best 98 = .ok (.iload 6, 2) := by decide +kernel
theorem dX12_best_100 : decode cX12_best 100 = .ok (.isub, 1) := by decide +kernel
theorem dX12_best_101 : decode cX12_best 101 = .ok (.invokestatic 175, 3) := by decide +kernel
theorem dX12_best_104 : decode cX12_best 104 = .ok (.idiv, 1) := by decide +kernel
theorem dX12_best_105 : decode cX12_best 105 = .ok (.iconst 5, 1) := by decide +kernel
theorem dX12_best_106 : decode cX12_best 106 = .ok (.irem, 1) := by decide +kernel
theorem dX12_best_107 : decode cX12_best 107 = .ok (.iadd, 1) := by decide +kernel
theorem dX12_best_108 : decode cX12_best 108 = .ok (.istore 5, 2) := by decide +kernel
theorem dX12_best_110 : decode cX12_best 110 = .ok (.iinc 6 1, 3) := by decide +kernel
theorem dX12_best_113 : decode cX12_best 113 = .ok (.goto (-32), 3) := by decide +kernel
theorem dX12_best_116 : decode cX12_best 116 = .ok (.iload_n 2, 1) := by decide +kernel
theorem dX12_best_117 : decode cX12_best 117 = .ok (.ifCond .eq 8, 3) := by decide +kernel
theorem dX12_best_120 : decode cX12_best 120 = .ok (.iload 5, 2) := by decide +kernel
theorem dX12_best_122 : decode cX12_best 122 = .ok (.goto 4, 3) := by decide +kernel
theorem dX12_best_125 : decode cX12_best 125 = .ok (.iload_n 3, 1) := by decide +kernel
theorem dX12_best_126 : decode cX12_best 126 = .ok (.ireturn, 1) := by decide +kernel
set_option maxRecDepth 20000 in
theorem ggX12_fewest_X12_isPerson : GoodIn wsX12_fewest wsX12_isPerson := goodIn_r _ [5, 6, 7, 8, 4, 9, 72, 73, 74, 75, 76, 77, 78, 79, 80, 81, 82, 83, 84, 85, 86, 87, 88, 89, 90, 91, 92, 93, 94, 95, 96, 97, 98, 99, 100, 101] (by decide +kernel) (by decide +kernel)
set_option maxRecDepth 20000 in
theorem gX12_fewest_X12_isPerson : GoodIn wsX12_fewest (wsV RX12 137 RX12 yX12_isPerson wsX12_isPerson) := goodIn_app (goodIn_of _ (by decide +kernel)) ggX12_fewest_X12_isPerson
set_option maxRecDepth 20000 in
theorem ggX12_fewest_X12_power : GoodIn wsX12_fewest wsX12_power := goodIn_r _ [12] (by decide +kernel) (by decide +kernel)
set_option maxRecDepth 20000 in
theorem gX12_fewest_X12_power : GoodIn wsX12_fewest (va_wsS RX12 175 yX12_power wsX12_power) := goodIn_app (goodIn_of _ (by decide +kernel)) ggX12_fewest_X12_power
set_option maxRecDepth 20000 in
theorem ggX12_fewest_X12_doRow : GoodIn wsX12_fewest wsX12_doRow := goodIn_r _ [16, 17, 18, 19, 4, 20, 21, 10, 11, 12, 22, 23, 24, 25, 1, 2, 3, 5, 6, 7, 8, 9, 26, 27, 28, 29, 30, 31, 32, 33, 34, 35, 36, 37, 38, 39, 40, 41, 42, 43, 44, 45, 46, 47, 48, 49, 50, 51, 52, 53, 54, 55, 56, 57, 58, 59, 72, 73, 74, 75, 76, 77, 78, 79, 80, 81, 82, 83, 84, 85, 86, 87, 88, 89, 90, 91, 92, 93, 94, 95, 96, 97, 98, 99, 100, 101] (by decide +kernel) (by decide +kernel)
set_option maxRecDepth 20000 in
theorem gX12_fewest_X12_doRow : GoodIn wsX12_fewest (wsV RX12 183 RX12 yX12_doRow wsX12_doRow) := goodIn_app (goodIn_of _ (by decide +kernel)) ggX12_fewest_X12_doRow
set_option maxRecDepth 20000 in
theorem ggX12_fewest_X12_isClean : GoodIn wsX12_fewest wsX12_isClean := goodIn_r _ [63, 64, 65, 66, 4, 67, 30, 21, 68, 69, 70, 71, 52, 72, 73, 74, 75, 76, 77, 78, 79, 80, 81, 82, 83, 84, 85, 86, 87, 88, 89, 90, 91, 92, 93, 94, 95, 96, 97, 98, 99, 100, 101] (by decide +kernel) (by decide +kernel)
set_option maxRecDepth 20000 in
theorem gX12_fewest_X12_isClean : GoodIn wsX12_fewest (wsV RX12 144 RX12 yX12_isClean wsX12_isClean) := goodIn_app (goodIn_of _ (by decide +kernel)) ggX12_fewest_X12_isClean
theorem dX12_fewest_0 : decode cX12_fewest 0 = .ok (.aload_n 0, 1) := by decide +kernel
theorem dX12_fewest_1 : decode cX12_fewest 1 = .ok (.iload_n 1, 1) := by decide +kernel
theorem dX12_fewest_2 : decode cX12_fewest 2 = .ok (.invokevirtual 137, 3) := by decide +kernel
theorem dX12_fewest_5 : decode cX12_fewest 5 = .ok (.ifCond .ne 5, 3) := by decide +kernel
theorem dX12_fewest_8 : decode cX12_fewest 8 = .ok (.iconst (-1), 1) := by decide +kernel
theorem dX12_fewest_9 : decode cX12_fewest 9 = .ok (.ireturn, 1) := by decide +kernel
theorem dX12_fewest_10 : decode cX12_fewest 10 = .ok (.iconst 0, 1) := by decide +kernel
theorem dX12_fewest_11 : decode cX12_fewest 11 = .ok (.istore_n 2, 1) := by decide +kernel
theorem dX12_fewest_12 : decode cX12_fewest 12 = .ok (.iload_n 2, 1) := by decide +kernel
theorem dX12_fewest_13 : decode cX12_fewest 13 = .ok (.iconst 5, 1) := by decide +kernel
theorem dX12_fewest_14 : decode cX12_fewest 14 = .ok (.if_icmp .ge 46, 3) := by decide +kernel
theorem dX12_fewest_17 : decode cX12_fewest 17 = .ok (.iconst 0, 1) := by decide +kernel
theorem dX12_fewest_18 : decode cX12_fewest 18 = .ok (.istore_n 3, 1) := by decide +kernel
theorem dX12_fewest_19 : decode cX12_fewest 19 = .ok (.iload_n 3, 1) := by decide +kernel
theorem dX12_fewest_20 : decode cX12_fewest 20 = .ok (.iconst 5, 1) := by decide +kernel
theorem dX12_fewest_21 : decode cX12_fewest 21 = .ok (.iload_n 2, 1) := by decide +kernel
theorem dX12_fewest_22 : decode cX12_fewest 22 = .ok (.invokestatic 175, 3) := by decide +kernel
theorem dX12_fewest_25 : decode cX12_fewest 25 = .ok (.if_icmp .ge 29, 3) := by decide +kernel
theorem dX12_fewest_28 : decode cX12_fewest 28 = .ok (.aload_n 0, 1) := by decide +kernel
theorem dX12_fewest_29 : decode cX12_fewest 29 = .ok (.iload_n 2, 1) := by decide +kernel
theorem dX12_fewest_30 : decode cX12_fewest 30 = .ok (.iload_n 3, 1) := by decide +kernel
theorem dX12_fewest_31 : decode cX12_fewest 31 = .ok (.invokevirtual 183, 3) := by decide +kernel
theorem dX12_fewest_34 : decode cX12_fewest 34 = .ok (.ifCond .eq 14, 3) := by decide +kernel
theorem dX12_fewest_37 : decode cX12_fewest 37 = .ok (.aload_n 0, 1) := by decide +kernel
theorem dX12_fewest_38 : decode cX12_fewest 38 = .ok (.iconst 1, 1) := by decide +kernel
theorem dX12_fewest_39 : decode cX12_fewest 39 = .ok (.iload_n 1, 1) := by decide +kernel
theorem dX12_fewest_40 : decode cX12_fewest 40 = .ok (.invokevirtual 144, 3) := by decide +kernel
theorem dX12_fewest_43 : decode cX12_fewest 43 = .ok (.ifCond .eq 5, 3) := by decide +kernel
theorem dX12_fewest_46 : decode cX12_fewest 46 = .ok (.iload_n 2, 1) := by decide +kernel
theorem dX12_fewest_47 : decode cX12_fewest 47 = .ok (.ireturn, 1) := by decide +kernel
theorem dX12_fewest_48 : decode cX12_fewest 48 = .ok (.iinc 3 1, 3) := by decide +kernel
theorem dX12_fewest_51 : decode cX12_fewest 51 = .ok (.goto (-32), 3) := by decide +kernel
theorem dX12_fewest_54 : decode cX12_fewest 54 = .ok (.iinc 2 1, 3) := by decide +kernel
theorem dX12_fewest_57 : decode cX12_fewest 57 = .ok (.goto (-45), 3) := by decide +kernel
theorem dX12_fewest_60 : decode cX12_fewest 60 = .ok (.bipush (-9), 2) := by decide +kernel
theorem dX12_fewest_62 : decode cX12_fewest 62 = .ok (.ireturn, 1) := by decide +kernel
set_option maxRecDepth 20000 in
theorem ggX12_when_X12_isGrain : GoodIn wsX12_when wsX12_isGrain := goodIn_r _ [6, 7, 8, 9, 5, 10, 44, 45, 46, 47, 48, 49, 50, 51, 52, 53, 54, 55, 56, 57, 58, 59, 60, 61, 62, 63, 64, 65, 66, 67, 68, 69, 70, 71, 72, 73] (by decide +kernel) (by decide +kernel)
set_option maxRecDepth 20000 in
theorem gX12_when_X12_isGrain : GoodIn wsX12_when (wsV RX12 154 RX12 yX12_isGrain wsX12_isGrain) := goodIn_app (goodIn_of _ (by decide +kernel)) ggX12_when_X12_isGrain
set_option maxRecDepth 20000 in
theorem ggX12_when_X12_layTrial : GoodIn wsX12_when wsX12_layTrial := goodIn_r _ [14, 1, 44, 45, 46, 47, 48, 49, 50, 51, 52, 53, 54, 55, 56, 57, 58, 59, 60, 61, 62, 63, 64, 65, 66, 67, 68, 69, 70, 71, 72, 73] (by decide +kernel) (by decide +kernel)
set_option maxRecDepth 20000 in
theorem gX12_when_X12_layTrial : GoodIn wsX12_when (wsV RX12 172 RX12 yX12_layTrial wsX12_layTrial) := goodIn_app (goodIn_of _ (by decide +kernel)) ggX12_when_X12_layTrial
set_option maxRecDepth 20000 in
theorem ggX12_when_X12_lies : GoodIn wsX12_when wsX12_lies := goodIn_r _ [18, 1, 19, 44, 45, 46, 47, 48, 49, 50, 51, 52, 53, 54, 55, 56, 57, 58, 59, 60, 61, 62, 63, 64, 65, 66, 67, 68, 69, 70, 71, 72, 73] (by decide +kernel) (by decide +kernel)
set_option maxRecDepth 20000 in
theorem gX12_when_X12_lies : GoodIn wsX12_when (wsV RX12 157 RX12 yX12_lies wsX12_lies) := goodIn_app (goodIn_of _ (by decide +kernel)) ggX12_when_X12_lies
set_option maxRecDepth 20000 in
theorem ggX12_when_X12_liftAt : GoodIn wsX12_when wsX12_liftAt := goodIn_r _ [23, 1, 24, 25, 26, 27, 5, 28, 29, 30, 44, 45, 46, 47, 48, 49, 50, 51, 52, 53, 54, 55, 56, 57, 58, 59, 60, 61, 62, 63, 64, 65, 66, 67, 68, 69, 70, 71, 72, 73] (by decide +kernel) (by decide +kernel)
set_option maxRecDepth 20000 in
theorem gX12_when_X12_liftAt : GoodIn wsX12_when (wsV RX12 122 RX12 yX12_liftAt wsX12_liftAt) := goodIn_app (goodIn_of _ (by decide +kernel)) ggX12_when_X12_liftAt
set_option maxRecDepth 20000 in
theorem ggX12_when_X12_flies : GoodIn wsX12_when wsX12_flies := goodIn_r _ [34, 24, 35, 1, 36, 37, 38, 39, 5, 40, 41, 42, 43, 44, 45, 46, 47, 48, 49, 50, 51, 52, 53, 54, 55, 56, 57, 58, 59, 60, 61, 62, 63, 64, 65, 66, 67, 68, 69, 70, 71, 72, 73] (by decide +kernel) (by decide +kernel)
set_option maxRecDepth 20000 in
theorem gX12_when_X12_flies : GoodIn wsX12_when (wsV RX12 125 RX12 yX12_flies wsX12_flies) := goodIn_app (goodIn_of _ (by decide +kernel)) ggX12_when_X12_flies
theorem dX12_when_0 : decode cX12_when 0 = .ok (.aload_n 0, 1) := by decide +kernel
theorem dX12_when_1 : decode cX12_when 1 = .ok (.iload_n 1, 1) := by decide +kernel
theorem dX12_when_2 : decode cX12_when 2 = .ok (.invokevirtual 154, 3) := by decide +kernel
theorem dX12_when_5 : decode cX12_when 5 = .ok (.ifCond .ne 5, 3) := by decide +kernel
theorem dX12_when_8 : decode cX12_when 8 = .ok (.iconst (-1), 1) := by decide +kernel
theorem dX12_when_9 : decode cX12_when 9 = .ok (.ireturn, 1) := by decide +kernel
theorem dX12_when_10 : decode cX12_when 10 = .ok (.aload_n 0, 1) := by decide +kernel
theorem dX12_when_11 : decode cX12_when 11 = .ok (.invokevirtual 172, 3) := by decide +kernel
theorem dX12_when_14 : decode cX12_when 14 = .ok (.iconst 0, 1) := by decide +kernel
theorem dX12_when_15 : decode cX12_when 15 = .ok (.istore_n 2, 1) := by decide +kernel
theorem dX12_when_16 : decode cX12_when 16 = .ok (.iload_n 2, 1) := by decide +kernel
theorem dX12_when_17 : decode cX12_when 17 = .ok (.bipush 20, 2) := by decide +kernel
theorem dX12_when_19 : decode cX12_when 19 = .ok (.if_icmp .gt 52, 3) := by decide +kernel
theorem dX12_when_22 : decode cX12_when 22 = .ok (.aload_n 0, 1) := by decide +kernel
theorem dX12_when_23 : decode cX12_when 23 = .ok (.iconst 0, 1) := by decide +kernel
theorem dX12_when_24 : decode cX12_when 24 = .ok (.iload_n 1, 1) := by decide +kernel
theorem dX12_when_25 : decode cX12_when 25 = .ok (.invokevirtual 157, 3) := by decide +kernel
theorem dX12_when_28 : decode cX12_when 28 = .ok (.ifCond .eq 43, 3) := by decide +kernel
theorem dX12_when_31 : decode cX12_when 31 = .ok (.aload_n 0, 1) := by decide +kernel
theorem dX12_when_32 : decode cX12_when 32 = .ok (.iconst 1, 1) := by decide +kernel
theorem dX12_when_33 : decode cX12_when 33 = .ok (.iload_n 1, 1) := by decide +kernel
theorem dX12_when_34 : decode cX12_when 34 = .ok (.aload_n 0, 1) := by decide +kernel
theorem dX12_when_35 : decode cX12_when 35 = .ok (.iconst 1, 1) := by decide +kernel
theorem dX12_when_36 : decode cX12_when 36 = .ok (.aload_n 0, 1) := by decide +kernel
theorem dX12_when_37 : decode cX12_when 37 = .ok (.getfield 25, 3) := by decide +kernel
theorem dX12_when_40 : decode cX12_when 40 = .ok (.iload_n 1, 1) := by decide +kernel
theorem dX12_when_41 : decode cX12_when 41 = .ok (.iaload, 1) := by decide +kernel
theorem dX12_when_42 : decode cX12_when 42 = .ok (.iconst 0, 1) := by decide +kernel
theorem dX12_when_43 : decode cX12_when 43 = .ok (.invokevirtual 122, 3) := by decide +kernel
theorem dX12_when_46 : decode cX12_when 46 = .ok (.invokevirtual 125, 3) := by decide +kernel
theorem dX12_when_49 : decode cX12_when 49 = .ok (.ifCond .le 5, 3) := by decide +kernel
theorem dX12_when_52 : decode cX12_when 52 = .ok (.iload_n 2, 1) := by decide +kernel
theorem dX12_when_53 : decode cX12_when 53 = .ok (.ireturn, 1) := by decide +kernel
theorem dX12_when_54 : decode cX12_when 54 = .ok (.aload_n 0, 1) := by decide +kernel
theorem dX12_when_55 : decode cX12_when 55 = .ok (.getfield 25, 3) := by decide +kernel
theorem dX12_when_58 : decode cX12_when 58 = .ok (.bipush 17, 2) := by decide +kernel
theorem dX12_when_60 : decode cX12_when 60 = .ok (.dup2, 1) := by decide +kernel
theorem dX12_when_61 : decode cX12_when 61 = .ok (.iaload, 1) := by decide +kernel
theorem dX12_when_62 : decode cX12_when 62 = .ok (.iconst 1, 1) := by decide +kernel
theorem dX12_when_63 : decode cX12_when 63 = .ok (.iadd, 1) := by decide +kernel
theorem dX12_when_64 : decode cX12_when 64 = .ok (.iastore, 1) := by decide +kernel
theorem dX12_when_65 : decode cX12_when 65 = .ok (.iinc 2 1, 3) := by decide +kernel
theorem dX12_when_68 : decode cX12_when 68 = .ok (.goto (-52), 3) := by decide +kernel
theorem dX12_when_71 : decode cX12_when 71 = .ok (.bipush (-9), 2) := by decide +kernel
theorem dX12_when_73 : decode cX12_when 73 = .ok (.ireturn, 1) := by decide +kernel
set_option maxRecDepth 20000 in
theorem ggX12_guiltBy_X12_layTrial : GoodIn wsX12_guiltBy wsX12_layTrial := goodIn_r _ [7, 1, 46, 47, 48, 49, 50, 51, 52, 53, 54, 55, 56, 57, 58, 59, 60, 61, 62, 63, 64, 65, 66, 67, 68, 69, 70, 71, 72, 73, 74, 75] (by decide +kernel) (by decide +kernel)
set_option maxRecDepth 20000 in
theorem gX12_guiltBy_X12_layTrial : GoodIn wsX12_guiltBy (wsV RX12 172 RX12 yX12_layTrial wsX12_layTrial) := goodIn_app (goodIn_of _ (by decide +kernel)) ggX12_guiltBy_X12_layTrial
set_option maxRecDepth 20000 in
theorem ggX12_guiltBy_X12_tossBy : GoodIn wsX12_guiltBy wsX12_tossBy := goodIn_r _ [11, 12, 1, 13, 14, 15, 16, 6, 17, 18, 19, 2, 20, 21, 22, 23, 24, 25, 26, 27, 28, 29, 30, 31, 32, 33, 34, 35, 36, 37, 38, 39, 40, 41, 46, 47, 48, 49, 50, 51, 52, 53, 54, 55, 56, 57, 58, 59, 60, 61, 62, 63, 64, 65, 66, 67, 68, 69, 70, 71, 72, 73, 74, 75] (by decide +kernel) (by decide +kernel)
set_option maxRecDepth 20000 in
theorem gX12_guiltBy_X12_tossBy : GoodIn wsX12_guiltBy (wsV RX12 166 RX12 yX12_tossBy wsX12_tossBy) := goodIn_app (goodIn_of _ (by decide +kernel)) ggX12_guiltBy_X12_tossBy
set_option maxRecDepth 20000 in
theorem ggX12_guiltBy_X12_guilt : GoodIn wsX12_guiltBy wsX12_guilt := goodIn_r _ [45, 12, 1, 18, 35, 46, 47, 48, 49, 50, 51, 52, 53, 54, 55, 56, 57, 58, 59, 60, 61, 62, 63, 64, 65, 66, 67, 68, 69, 70, 71, 72, 73, 74, 75] (by decide +kernel) (by decide +kernel)
set_option maxRecDepth 20000 in
theorem gX12_guiltBy_X12_guilt : GoodIn wsX12_guiltBy (wsV RX12 141 RX12 yX12_guilt wsX12_guilt) := goodIn_app (goodIn_of _ (by decide +kernel)) ggX12_guiltBy_X12_guilt
theorem dX12_guiltBy_0 : decode cX12_guiltBy 0 = .ok (.aload_n 0, 1) := by decide +kernel
