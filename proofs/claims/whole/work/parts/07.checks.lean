theorem ck0 : CkP r0 ct0 := by decide +kernel
theorem ck1 : CkP r1 ct1 := by decide +kernel
theorem ck2 : CkP r2 ct2 := by decide +kernel
theorem ck3 : CkP r3 ct3 := by decide +kernel
theorem ck4 : CkP r4 ct4 := by decide +kernel
theorem ck5 : CkP r5 ct5 := by decide +kernel
theorem ck6 : CkP r6 ct6 := by decide +kernel
theorem ck7 : CkP r7 ct7 := by decide +kernel
theorem ck8 : CkP r8 ct8 := by decide +kernel
theorem ck9 : CkP r9 ct9 := by decide +kernel
theorem ck10 : CkP r10 ct10 := by decide +kernel
theorem ck11 : CkP r11 ct11 := by decide +kernel
theorem ck12 : CkP r12 ct12 := by decide +kernel
theorem ck13 : CkP r13 ct13 := by decide +kernel
theorem ck14 : CkP r14 ct14 := by decide +kernel
theorem ck15 : CkP r15 ct15 := by decide +kernel
theorem ck16 : CkP r16 ct16 := by decide +kernel
theorem ck17 : CkP r17 ct17 := by decide +kernel
theorem ck18 : CkP r18 ct18 := by decide +kernel
theorem ck19_0 : CkP r19 ct19_0 := by decide +kernel
theorem ck19_1 : CkP r19 ct19_1 := by decide +kernel
theorem ck19 : CkP r19 ct19 := by
  unfold CkP ct19
  rw [List.all_append]
  simp only [Bool.and_eq_true]
  exact ⟨ck19_0, ck19_1⟩
theorem ck20 : CkP r20 ct20 := by decide +kernel
theorem ck21 : CkP r21 ct21 := by decide +kernel
theorem ck22 : CkP r22 ct22 := by decide +kernel
theorem ck23_0 : CkP r23 ct23_0 := by decide +kernel
theorem ck23_1 : CkP r23 ct23_1 := by decide +kernel
theorem ck23 : CkP r23 ct23 := by
  unfold CkP ct23
  rw [List.all_append]
  simp only [Bool.and_eq_true]
  exact ⟨ck23_0, ck23_1⟩
theorem ck24 : CkP r24 ct24 := by decide +kernel
theorem ck25 : CkP r25 ct25 := by decide +kernel
theorem ck26 : CkP r26 ct26 := by decide +kernel
theorem ck27 : CkP r27 ct27 := by decide +kernel
theorem ck28_0 : CkP r28 ct28_0 := by decide +kernel
theorem ck28_1 : CkP r28 ct28_1 := by decide +kernel
theorem ck28 : CkP r28 ct28 := by
  unfold CkP ct28
  rw [List.all_append]
  simp only [Bool.and_eq_true]
  exact ⟨ck28_0, ck28_1⟩
theorem ck29 : CkP r29 ct29 := by decide +kernel
theorem ck30_0 : CkP r30 ct30_0 := by decide +kernel
theorem ck30_1 : CkP r30 ct30_1 := by decide +kernel
theorem ck30 : CkP r30 ct30 := by
  unfold CkP ct30
  rw [List.all_append]
  simp only [Bool.and_eq_true]
  exact ⟨ck30_0, ck30_1⟩
theorem ck31 : CkP r31 ct31 := by decide +kernel
theorem ck32 : CkP r32 ct32 := by decide +kernel
theorem ck33 : CkP r33 ct33 := by decide +kernel
theorem ck34_0 : CkP r34 ct34_0 := by decide +kernel
theorem ck34_1 : CkP r34 ct34_1 := by decide +kernel
theorem ck34 : CkP r34 ct34 := by
  unfold CkP ct34
  rw [List.all_append]
  simp only [Bool.and_eq_true]
  exact ⟨ck34_0, ck34_1⟩
theorem ck35 : CkP r35 ct35 := by decide +kernel
theorem ck36 : CkP r36 ct36 := by decide +kernel
theorem ck37 : CkP r37 ct37 := by decide +kernel
theorem ck38 : CkP r38 ct38 := by decide +kernel
theorem ck39 : CkP r39 ct39 := by decide +kernel
theorem ck40 : CkP r40 ct40 := by decide +kernel
theorem ck41 : CkP r41 ct41 := by decide +kernel
theorem ck42 : CkP r42 ct42 := by decide +kernel
theorem ck43 : CkP r43 ct43 := by decide +kernel
theorem ck44 : CkP r44 ct44 := by decide +kernel
theorem ck45 : CkP r45 ct45 := by decide +kernel
theorem ck46 : CkP r46 ct46 := by decide +kernel
theorem ck47 : CkP r47 ct47 := by decide +kernel
theorem ck48 : CkP r48 ct48 := by decide +kernel
theorem ck49 : CkP r49 ct49 := by decide +kernel
theorem ck50 : CkP r50 ct50 := by decide +kernel
theorem ck51 : CkP r51 ct51 := by decide +kernel
theorem ck52 : CkP r52 ct52 := by decide +kernel
theorem ck53 : CkP r53 ct53 := by decide +kernel
theorem ck54 : CkP r54 ct54 := by decide +kernel
theorem ck55 : CkP r55 ct55 := by decide +kernel
theorem ck56 : CkP r56 ct56 := by decide +kernel
theorem ck57_0 : CkP r57 ct57_0 := by decide +kernel
theorem ck57_1 : CkP r57 ct57_1 := by decide +kernel
theorem ck57 : CkP r57 ct57 := by
  unfold CkP ct57
  rw [List.all_append]
  simp only [Bool.and_eq_true]
  exact ⟨ck57_0, ck57_1⟩
theorem ck58 : CkP r58 ct58 := by decide +kernel
theorem ck59 : CkP r59 ct59 := by decide +kernel
theorem ck60 : CkP r60 ct60 := by decide +kernel
theorem ck61 : CkP r61 ct61 := by decide +kernel
theorem ck62 : CkP r62 ct62 := by decide +kernel
theorem ck63 : CkP r63 ct63 := by decide +kernel
theorem ck64 : CkP r64 ct64 := by decide +kernel
theorem ck65 : CkP r65 ct65 := by decide +kernel
theorem ck66 : CkP r66 ct66 := by decide +kernel
theorem ck67 : CkP r67 ct67 := by decide +kernel
theorem ck68 : CkP r68 ct68 := by decide +kernel
theorem ck69 : CkP r69 ct69 := by decide +kernel
theorem ck70_0 : CkP r70 ct70_0 := by decide +kernel
theorem ck70_1 : CkP r70 ct70_1 := by decide +kernel
theorem ck70 : CkP r70 ct70 := by
  unfold CkP ct70
  rw [List.all_append]
  simp only [Bool.and_eq_true]
  exact ⟨ck70_0, ck70_1⟩
theorem ck71_0 : CkP r71 ct71_0 := by decide +kernel
theorem ck71_1 : CkP r71 ct71_1 := by decide +kernel
theorem ck71 : CkP r71 ct71 := by
  unfold CkP ct71
  rw [List.all_append]
  simp only [Bool.and_eq_true]
  exact ⟨ck71_0, ck71_1⟩
theorem ck72 : CkP r72 ct72 := by decide +kernel
theorem ck73_0 : CkP r73 ct73_0 := by decide +kernel
theorem ck73_1 : CkP r73 ct73_1 := by decide +kernel
theorem ck73 : CkP r73 ct73 := by
  unfold CkP ct73
  rw [List.all_append]
  simp only [Bool.and_eq_true]
  exact ⟨ck73_0, ck73_1⟩
theorem ck74 : CkP r74 ct74 := by decide +kernel
theorem ck75 : CkP r75 ct75 := by decide +kernel
theorem ck76 : CkP r76 ct76 := by decide +kernel
theorem ck77 : CkP r77 ct77 := by decide +kernel
theorem ck78 : CkP r78 ct78 := by decide +kernel
theorem ck79_0 : CkP r79 ct79_0 := by decide +kernel
theorem ck79_1 : CkP r79 ct79_1 := by decide +kernel
theorem ck79 : CkP r79 ct79 := by
  unfold CkP ct79
  rw [List.all_append]
  simp only [Bool.and_eq_true]
  exact ⟨ck79_0, ck79_1⟩
theorem ck80 : CkP r80 ct80 := by decide +kernel
theorem ck81 : CkP r81 ct81 := by decide +kernel
theorem ck82 : CkP r82 ct82 := by decide +kernel
theorem ck83 : CkP r83 ct83 := by decide +kernel
theorem ck84 : CkP r84 ct84 := by decide +kernel
theorem ck85 : CkP r85 ct85 := by decide +kernel
theorem ck86 : CkP r86 ct86 := by decide +kernel
theorem ck87 : CkP r87 ct87 := by decide +kernel
theorem ck88 : CkP r88 ct88 := by decide +kernel
theorem ck89 : CkP r89 ct89 := by decide +kernel
theorem ck90 : CkP r90 ct90 := by decide +kernel
theorem ck91 : CkP r91 ct91 := by decide +kernel
theorem ck92 : CkP r92 ct92 := by decide +kernel
theorem ck93 : CkP r93 ct93 := by decide +kernel
theorem ck94 : CkP r94 ct94 := by decide +kernel
theorem ck95 : CkP r95 ct95 := by decide +kernel
theorem ck96 : CkP r96 ct96 := by decide +kernel
theorem ck97 : CkP r97 ct97 := by decide +kernel
theorem ck98 : CkP r98 ct98 := by decide +kernel
theorem ck99 : CkP r99 ct99 := by decide +kernel
theorem ck100_0 : CkP r100 ct100_0 := by decide +kernel
theorem ck100_1 : CkP r100 ct100_1 := by decide +kernel
theorem ck100 : CkP r100 ct100 := by
  unfold CkP ct100
  rw [List.all_append]
  simp only [Bool.and_eq_true]
  exact ⟨ck100_0, ck100_1⟩
theorem ck101 : CkP r101 ct101 := by decide +kernel
theorem ck102_0 : CkP r102 ct102_0 := by decide +kernel
theorem ck102_1 : CkP r102 ct102_1 := by decide +kernel
theorem ck102 : CkP r102 ct102 := by
  unfold CkP ct102
  rw [List.all_append]
  simp only [Bool.and_eq_true]
  exact ⟨ck102_0, ck102_1⟩
theorem ck103 : CkP r103 ct103 := by decide +kernel
theorem ck104 : CkP r104 ct104 := by decide +kernel
theorem ck105 : CkP r105 ct105 := by decide +kernel
theorem ck106 : CkP r106 ct106 := by decide +kernel
theorem ck107 : CkP r107 ct107 := by decide +kernel
theorem ck108 : CkP r108 ct108 := by decide +kernel
theorem ck109 : CkP r109 ct109 := by decide +kernel
theorem ck110 : CkP r110 ct110 := by decide +kernel
theorem ck111 : CkP r111 ct111 := by decide +kernel
theorem ck112 : CkP r112 ct112 := by decide +kernel
theorem ck113 : CkP r113 ct113 := by decide +kernel
theorem ck114 : CkP r114 ct114 := by decide +kernel
theorem ck115 : CkP r115 ct115 := by decide +kernel
theorem ck116 : CkP r116 ct116 := by decide +kernel
theorem ck117 : CkP r117 ct117 := by decide +kernel
theorem ck118_0 : CkP r118 ct118_0 := by decide +kernel
theorem ck118_1 : CkP r118 ct118_1 := by decide +kernel
theorem ck118 : CkP r118 ct118 := by
  unfold CkP ct118
  rw [List.all_append]
  simp only [Bool.and_eq_true]
  exact ⟨ck118_0, ck118_1⟩
theorem ck119 : CkP r119 ct119 := by decide +kernel
theorem ck120 : CkP r120 ct120 := by decide +kernel
theorem ck121 : CkP r121 ct121 := by decide +kernel
theorem ck122 : CkP r122 ct122 := by decide +kernel
theorem ck123 : CkP r123 ct123 := by decide +kernel
theorem ck124 : CkP r124 ct124 := by decide +kernel
theorem ck125 : CkP r125 ct125 := by decide +kernel
theorem ck126 : CkP r126 ct126 := by decide +kernel
theorem ck127 : CkP r127 ct127 := by decide +kernel
theorem ck128 : CkP r128 ct128 := by decide +kernel
theorem ck129 : CkP r129 ct129 := by decide +kernel
theorem ck130 : CkP r130 ct130 := by decide +kernel
theorem ck131 : CkP r131 ct131 := by decide +kernel
theorem ck132 : CkP r132 ct132 := by decide +kernel
theorem ck133 : CkP r133 ct133 := by decide +kernel
theorem ck134 : CkP r134 ct134 := by decide +kernel
theorem ck135 : CkP r135 ct135 := by decide +kernel
theorem ck136 : CkP r136 ct136 := by decide +kernel
theorem ck137 : CkP r137 ct137 := by decide +kernel
theorem ck138_0 : CkP r138 ct138_0 := by decide +kernel
theorem ck138_1 : CkP r138 ct138_1 := by decide +kernel
theorem ck138_2 : CkP r138 ct138_2 := by decide +kernel
theorem ck138 : CkP r138 ct138 := by
  unfold CkP ct138
  rw [List.all_append, List.all_append]
  simp only [Bool.and_eq_true]
  exact ⟨⟨ck138_0, ck138_1⟩, ck138_2⟩
theorem ck139 : CkP r139 ct139 := by decide +kernel
theorem ck140 : CkP r140 ct140 := by decide +kernel
theorem ck141 : CkP r141 ct141 := by decide +kernel
theorem ck142 : CkP r142 ct142 := by decide +kernel
theorem ck143 : CkP r143 ct143 := by decide +kernel
theorem ck144 : CkP r144 ct144 := by decide +kernel
theorem ck145 : CkP r145 ct145 := by decide +kernel
theorem ck146_0 : CkP r146 ct146_0 := by decide +kernel
theorem ck146_1 : CkP r146 ct146_1 := by decide +kernel
theorem ck146 : CkP r146 ct146 := by
  unfold CkP ct146
  rw [List.all_append]
  simp only [Bool.and_eq_true]
  exact ⟨ck146_0, ck146_1⟩
theorem ck147 : CkP r147 ct147 := by decide +kernel
theorem ck148 : CkP r148 ct148 := by decide +kernel
theorem ck149 : CkP r149 ct149 := by decide +kernel
theorem ck150 : CkP r150 ct150 := by decide +kernel
theorem ck151_0 : CkP r151 ct151_0 := by decide +kernel
theorem ck151_1 : CkP r151 ct151_1 := by decide +kernel
theorem ck151 : CkP r151 ct151 := by
  unfold CkP ct151
  rw [List.all_append]
  simp only [Bool.and_eq_true]
  exact ⟨ck151_0, ck151_1⟩
theorem ck152 : CkP r152 ct152 := by decide +kernel
theorem ck153_0 : CkP r153 ct153_0 := by decide +kernel
theorem ck153_1 : CkP r153 ct153_1 := by decide +kernel
theorem ck153 : CkP r153 ct153 := by
  unfold CkP ct153
  rw [List.all_append]
  simp only [Bool.and_eq_true]
  exact ⟨ck153_0, ck153_1⟩
theorem ck154 : CkP r154 ct154 := by decide +kernel
theorem ck155 : CkP r155 ct155 := by decide +kernel
theorem ck156 : CkP r156 ct156 := by decide +kernel
theorem ck157_0 : CkP r157 ct157_0 := by decide +kernel
theorem ck157_1 : CkP r157 ct157_1 := by decide +kernel
theorem ck157 : CkP r157 ct157 := by
  unfold CkP ct157
  rw [List.all_append]
  simp only [Bool.and_eq_true]
  exact ⟨ck157_0, ck157_1⟩
theorem ck158_0 : CkP r158 ct158_0 := by decide +kernel
theorem ck158_1 : CkP r158 ct158_1 := by decide +kernel
theorem ck158 : CkP r158 ct158 := by
  unfold CkP ct158
  rw [List.all_append]
  simp only [Bool.and_eq_true]
  exact ⟨ck158_0, ck158_1⟩
theorem ck159 : CkP r159 ct159 := by decide +kernel
theorem ck160 : CkP r160 ct160 := by decide +kernel
theorem ck161 : CkP r161 ct161 := by decide +kernel
theorem ck162 : CkP r162 ct162 := by decide +kernel
theorem ck163 : CkP r163 ct163 := by decide +kernel
theorem ck164 : CkP r164 ct164 := by decide +kernel
theorem ck165 : CkP r165 ct165 := by decide +kernel
theorem ck166 : CkP r166 ct166 := by decide +kernel
theorem ck167 : CkP r167 ct167 := by decide +kernel
theorem ck168 : CkP r168 ct168 := by decide +kernel
theorem ck169_0 : CkP r169 ct169_0 := by decide +kernel
theorem ck169_1 : CkP r169 ct169_1 := by decide +kernel
theorem ck169_2 : CkP r169 ct169_2 := by decide +kernel
theorem ck169 : CkP r169 ct169 := by
  unfold CkP ct169
  rw [List.all_append, List.all_append]
  simp only [Bool.and_eq_true]
  exact ⟨⟨ck169_0, ck169_1⟩, ck169_2⟩
theorem ck170 : CkP r170 ct170 := by decide +kernel
theorem ck171_0 : CkP r171 ct171_0 := by decide +kernel
theorem ck171_1 : CkP r171 ct171_1 := by decide +kernel
theorem ck171_2 : CkP r171 ct171_2 := by decide +kernel
theorem ck171 : CkP r171 ct171 := by
  unfold CkP ct171
  rw [List.all_append, List.all_append]
  simp only [Bool.and_eq_true]
  exact ⟨⟨ck171_0, ck171_1⟩, ck171_2⟩
theorem ck172_0 : CkP r172 ct172_0 := by decide +kernel
theorem ck172_1 : CkP r172 ct172_1 := by decide +kernel
theorem ck172 : CkP r172 ct172 := by
  unfold CkP ct172
  rw [List.all_append]
  simp only [Bool.and_eq_true]
  exact ⟨ck172_0, ck172_1⟩
theorem ck173 : CkP r173 ct173 := by decide +kernel
theorem ck174 : CkP r174 ct174 := by decide +kernel
theorem ck175 : CkP r175 ct175 := by decide +kernel
theorem ck176 : CkP r176 ct176 := by decide +kernel
theorem ck177 : CkP r177 ct177 := by decide +kernel
theorem ck178 : CkP r178 ct178 := by decide +kernel
theorem ck179_0 : CkP r179 ct179_0 := by decide +kernel
theorem ck179_1 : CkP r179 ct179_1 := by decide +kernel
theorem ck179_2 : CkP r179 ct179_2 := by decide +kernel
theorem ck179 : CkP r179 ct179 := by
  unfold CkP ct179
  rw [List.all_append, List.all_append]
  simp only [Bool.and_eq_true]
  exact ⟨⟨ck179_0, ck179_1⟩, ck179_2⟩
theorem ck180 : CkP r180 ct180 := by decide +kernel
theorem ck181 : CkP r181 ct181 := by decide +kernel
theorem ck182_0 : CkP r182 ct182_0 := by decide +kernel
theorem ck182_1 : CkP r182 ct182_1 := by decide +kernel
theorem ck182 : CkP r182 ct182 := by
  unfold CkP ct182
  rw [List.all_append]
  simp only [Bool.and_eq_true]
  exact ⟨ck182_0, ck182_1⟩
theorem ck183 : CkP r183 ct183 := by decide +kernel
theorem ck184 : CkP r184 ct184 := by decide +kernel
theorem ck185_0 : CkP r185 ct185_0 := by decide +kernel
theorem ck185_1 : CkP r185 ct185_1 := by decide +kernel
theorem ck185 : CkP r185 ct185 := by
  unfold CkP ct185
  rw [List.all_append]
  simp only [Bool.and_eq_true]
  exact ⟨ck185_0, ck185_1⟩
theorem ck186_0 : CkP r186 ct186_0 := by decide +kernel
theorem ck186_1 : CkP r186 ct186_1 := by decide +kernel
theorem ck186 : CkP r186 ct186 := by
  unfold CkP ct186
  rw [List.all_append]
  simp only [Bool.and_eq_true]
  exact ⟨ck186_0, ck186_1⟩
theorem ck187 : CkP r187 ct187 := by decide +kernel
theorem ck188 : CkP r188 ct188 := by decide +kernel
theorem ck189_0 : CkP r189 ct189_0 := by decide +kernel
theorem ck189_1 : CkP r189 ct189_1 := by decide +kernel
theorem ck189 : CkP r189 ct189 := by
  unfold CkP ct189
  rw [List.all_append]
  simp only [Bool.and_eq_true]
  exact ⟨ck189_0, ck189_1⟩
theorem ck190 : CkP r190 ct190 := by decide +kernel
theorem ck191_0 : CkP r191 ct191_0 := by decide +kernel
theorem ck191_1 : CkP r191 ct191_1 := by decide +kernel
theorem ck191 : CkP r191 ct191 := by
  unfold CkP ct191
  rw [List.all_append]
  simp only [Bool.and_eq_true]
  exact ⟨ck191_0, ck191_1⟩
theorem ck192 : CkP r192 ct192 := by decide +kernel
theorem ck193 : CkP r193 ct193 := by decide +kernel
theorem ck194 : CkP r194 ct194 := by decide +kernel
theorem ck195 : CkP r195 ct195 := by decide +kernel
theorem ck196 : CkP r196 ct196 := by decide +kernel
theorem ck197 : CkP r197 ct197 := by decide +kernel
theorem ck198 : CkP r198 ct198 := by decide +kernel
theorem ck199 : CkP r199 ct199 := by decide +kernel
theorem ck200_0 : CkP r200 ct200_0 := by decide +kernel
theorem ck200_1 : CkP r200 ct200_1 := by decide +kernel
theorem ck200 : CkP r200 ct200 := by
  unfold CkP ct200
  rw [List.all_append]
  simp only [Bool.and_eq_true]
  exact ⟨ck200_0, ck200_1⟩
theorem ck201 : CkP r201 ct201 := by decide +kernel
theorem ck202_0 : CkP r202 ct202_0 := by decide +kernel
theorem ck202_1 : CkP r202 ct202_1 := by decide +kernel
theorem ck202 : CkP r202 ct202 := by
  unfold CkP ct202
  rw [List.all_append]
  simp only [Bool.and_eq_true]
  exact ⟨ck202_0, ck202_1⟩
theorem ck203 : CkP r203 ct203 := by decide +kernel
theorem ck204_0 : CkP r204 ct204_0 := by decide +kernel
theorem ck204_1 : CkP r204 ct204_1 := by decide +kernel
theorem ck204 : CkP r204 ct204 := by
  unfold CkP ct204
  rw [List.all_append]
  simp only [Bool.and_eq_true]
  exact ⟨ck204_0, ck204_1⟩
theorem ck205_0 : CkP r205 ct205_0 := by decide +kernel
theorem ck205_1 : CkP r205 ct205_1 := by decide +kernel
theorem ck205_2 : CkP r205 ct205_2 := by decide +kernel
theorem ck205 : CkP r205 ct205 := by
  unfold CkP ct205
  rw [List.all_append, List.all_append]
  simp only [Bool.and_eq_true]
  exact ⟨⟨ck205_0, ck205_1⟩, ck205_2⟩
theorem ck206 : CkP r206 ct206 := by decide +kernel
theorem ck207 : CkP r207 ct207 := by decide +kernel
theorem ck208 : CkP r208 ct208 := by decide +kernel
theorem ck209 : CkP r209 ct209 := by decide +kernel
theorem ck210 : CkP r210 ct210 := by decide +kernel
theorem ck211 : CkP r211 ct211 := by decide +kernel
theorem ck212 : CkP r212 ct212 := by decide +kernel
theorem ck213_0 : CkP r213 ct213_0 := by decide +kernel
theorem ck213_1 : CkP r213 ct213_1 := by decide +kernel
theorem ck213 : CkP r213 ct213 := by
  unfold CkP ct213
  rw [List.all_append]
  simp only [Bool.and_eq_true]
  exact ⟨ck213_0, ck213_1⟩
theorem ck214 : CkP r214 ct214 := by decide +kernel
theorem ck215 : CkP r215 ct215 := by decide +kernel
theorem ck216 : CkP r216 ct216 := by decide +kernel
theorem ck217 : CkP r217 ct217 := by decide +kernel
theorem ck218 : CkP r218 ct218 := by decide +kernel
theorem ck219 : CkP r219 ct219 := by decide +kernel
theorem ck220 : CkP r220 ct220 := by decide +kernel
theorem ck221_0 : CkP lawR ct221_0 := by decide +kernel
theorem ck221_1 : CkP lawR ct221_1 := by decide +kernel
theorem ck221_2 : CkP lawR ct221_2 := by decide +kernel
theorem ck221_3 : CkP lawR ct221_3 := by decide +kernel
theorem ck221_4 : CkP lawR ct221_4 := by decide +kernel
theorem ck221_5 : CkP lawR ct221_5 := by decide +kernel
theorem ck221_6 : CkP lawR ct221_6 := by decide +kernel
theorem ck221_7 : CkP lawR ct221_7 := by decide +kernel
theorem ck221_8 : CkP lawR ct221_8 := by decide +kernel
theorem ck221_9 : CkP lawR ct221_9 := by decide +kernel
theorem ck221_10 : CkP lawR ct221_10 := by decide +kernel
theorem ck221_11 : CkP lawR ct221_11 := by decide +kernel
theorem ck221_12 : CkP lawR ct221_12 := by decide +kernel
theorem ck221_13 : CkP lawR ct221_13 := by decide +kernel
theorem ck221_14 : CkP lawR ct221_14 := by decide +kernel
theorem ck221_15 : CkP lawR ct221_15 := by decide +kernel
theorem ck221_16 : CkP lawR ct221_16 := by decide +kernel
theorem ck221_17 : CkP lawR ct221_17 := by decide +kernel
theorem ck221_18 : CkP lawR ct221_18 := by decide +kernel
theorem ck221 : CkP lawR ct221 := by
  unfold CkP ct221
  rw [List.all_append, List.all_append, List.all_append, List.all_append, List.all_append, List.all_append, List.all_append, List.all_append, List.all_append, List.all_append, List.all_append, List.all_append, List.all_append, List.all_append, List.all_append, List.all_append, List.all_append, List.all_append]
  simp only [Bool.and_eq_true]
  exact ⟨⟨⟨⟨⟨⟨⟨⟨⟨⟨⟨⟨⟨⟨⟨⟨⟨⟨ck221_0, ck221_1⟩, ck221_2⟩, ck221_3⟩, ck221_4⟩, ck221_5⟩, ck221_6⟩, ck221_7⟩, ck221_8⟩, ck221_9⟩, ck221_10⟩, ck221_11⟩, ck221_12⟩, ck221_13⟩, ck221_14⟩, ck221_15⟩, ck221_16⟩, ck221_17⟩, ck221_18⟩
