set_option maxRecDepth 100000 in
theorem pt_k0 : px_okR pt_r0 = true := by decide +kernel
set_option maxRecDepth 100000 in
theorem pt_k1 : px_okR pt_r1 = true := by decide +kernel
set_option maxRecDepth 100000 in
theorem pt_k2 : px_okR pt_r2 = true := by decide +kernel
set_option maxRecDepth 100000 in
theorem pt_k3 : px_okR pt_r3 = true := by decide +kernel
set_option maxRecDepth 100000 in
theorem pt_k4 : px_okR pt_r4 = true := by decide +kernel
set_option maxRecDepth 100000 in
theorem pt_k5 : px_okR pt_r5 = true := by decide +kernel
set_option maxRecDepth 100000 in
theorem pt_k6 : px_okR pt_r6 = true := by decide +kernel
set_option maxRecDepth 100000 in
theorem pt_k7 : px_okR pt_r7 = true := by decide +kernel
set_option maxRecDepth 100000 in
theorem pt_k8 : px_okR pt_r8 = true := by decide +kernel
set_option maxRecDepth 100000 in
theorem pt_k9 : px_okR pt_r9 = true := by decide +kernel
set_option maxRecDepth 100000 in
theorem pt_k10 : px_okR pt_r10 = true := by decide +kernel
set_option maxRecDepth 100000 in
theorem pt_k11 : px_okR pt_r11 = true := by decide +kernel
set_option maxRecDepth 100000 in
theorem pt_k12 : px_okR pt_r12 = true := by decide +kernel
set_option maxRecDepth 100000 in
theorem pt_k13 : px_okR pt_r13 = true := by decide +kernel
set_option maxRecDepth 100000 in
theorem pt_k14 : px_okR pt_r14 = true := by decide +kernel
set_option maxRecDepth 100000 in
theorem pt_k15 : px_okR pt_r15 = true := by decide +kernel
set_option maxRecDepth 100000 in
theorem pt_k16 : px_okR pt_r16 = true := by decide +kernel
set_option maxRecDepth 100000 in
theorem pt_k17 : px_okR pt_r17 = true := by decide +kernel
set_option maxRecDepth 100000 in
theorem pt_k18 : px_okR pt_r18 = true := by decide +kernel
set_option maxRecDepth 100000 in
theorem pt_k19 : px_okR pt_r19 = true := by decide +kernel
set_option maxRecDepth 100000 in
theorem pt_k20 : px_okR pt_r20 = true := by decide +kernel
set_option maxRecDepth 100000 in
theorem pt_k21 : px_okR pt_r21 = true := by decide +kernel
set_option maxRecDepth 100000 in
theorem pt_k22 : px_okR pt_r22 = true := by decide +kernel
set_option maxRecDepth 100000 in
theorem pt_k23 : px_okR pt_r23 = true := by decide +kernel
set_option maxRecDepth 100000 in
theorem pt_k24 : px_okR pt_r24 = true := by decide +kernel
set_option maxRecDepth 100000 in
theorem pt_k25 : px_okR pt_r25 = true := by decide +kernel
set_option maxRecDepth 100000 in
theorem pt_k26 : px_okR pt_r26 = true := by decide +kernel
set_option maxRecDepth 100000 in
theorem pt_k27 : px_okR pt_r27 = true := by decide +kernel
set_option maxRecDepth 100000 in
theorem pt_k28 : px_okR pt_r28 = true := by decide +kernel
set_option maxRecDepth 100000 in
theorem pt_k29 : px_okR pt_r29 = true := by decide +kernel
set_option maxRecDepth 100000 in
theorem pt_k30 : px_okR pt_r30 = true := by decide +kernel
set_option maxRecDepth 100000 in
theorem pt_k31 : px_okR pt_r31 = true := by decide +kernel
set_option maxRecDepth 100000 in
theorem pt_k32 : px_okR pt_r32 = true := by decide +kernel
set_option maxRecDepth 100000 in
theorem pt_k33 : px_okR pt_r33 = true := by decide +kernel
set_option maxRecDepth 100000 in
theorem pt_k34 : px_okR pt_r34 = true := by decide +kernel
set_option maxRecDepth 100000 in
theorem pt_k35 : px_okR pt_r35 = true := by decide +kernel
set_option maxRecDepth 100000 in
theorem pt_k36 : px_okR pt_r36 = true := by decide +kernel
set_option maxRecDepth 100000 in
theorem pt_k37 : px_okR pt_r37 = true := by decide +kernel
set_option maxRecDepth 100000 in
theorem pt_k38 : px_okR pt_r38 = true := by decide +kernel
set_option maxRecDepth 100000 in
theorem pt_k39 : px_okR pt_r39 = true := by decide +kernel
set_option maxRecDepth 100000 in
theorem pt_k40 : px_okR pt_r40 = true := by decide +kernel
set_option maxRecDepth 100000 in
theorem pt_k41 : px_okR pt_r41 = true := by decide +kernel
set_option maxRecDepth 100000 in
theorem pt_k42 : px_okR pt_r42 = true := by decide +kernel
set_option maxRecDepth 100000 in
theorem pt_k43 : px_okR pt_r43 = true := by decide +kernel
set_option maxRecDepth 100000 in
theorem pt_k44 : px_okR pt_r44 = true := by decide +kernel
set_option maxRecDepth 100000 in
theorem pt_k45 : px_okR pt_r45 = true := by decide +kernel
set_option maxRecDepth 100000 in
theorem pt_k46 : px_okR pt_r46 = true := by decide +kernel
set_option maxRecDepth 100000 in
theorem pt_k47 : px_okR pt_r47 = true := by decide +kernel
set_option maxRecDepth 100000 in
theorem pt_k48 : px_okR pt_r48 = true := by decide +kernel
set_option maxRecDepth 100000 in
theorem pt_k49 : px_okR pt_r49 = true := by decide +kernel
set_option maxRecDepth 100000 in
theorem pt_k50 : px_okR pt_r50 = true := by decide +kernel
set_option maxRecDepth 100000 in
theorem pt_k51 : px_okR pt_r51 = true := by decide +kernel
set_option maxRecDepth 100000 in
theorem pt_k52 : px_okR pt_r52 = true := by decide +kernel
set_option maxRecDepth 100000 in
theorem pt_k53 : px_okR pt_r53 = true := by decide +kernel
set_option maxRecDepth 100000 in
theorem pt_k54 : px_okR pt_r54 = true := by decide +kernel
set_option maxRecDepth 100000 in
theorem pt_k55 : px_okR pt_r55 = true := by decide +kernel
set_option maxRecDepth 100000 in
theorem pt_k56 : px_okR pt_r56 = true := by decide +kernel
set_option maxRecDepth 100000 in
theorem pt_k57 : px_okR pt_r57 = true := by decide +kernel
set_option maxRecDepth 100000 in
theorem pt_k58 : px_okR pt_r58 = true := by decide +kernel
set_option maxRecDepth 100000 in
theorem pt_k59 : px_okR pt_r59 = true := by decide +kernel
set_option maxRecDepth 100000 in
theorem pt_k60 : px_okR pt_r60 = true := by decide +kernel
set_option maxRecDepth 100000 in
theorem pt_k61 : px_okR pt_r61 = true := by decide +kernel
set_option maxRecDepth 100000 in
theorem pt_k62 : px_okR pt_r62 = true := by decide +kernel
set_option maxRecDepth 100000 in
theorem pt_k63 : px_okR pt_r63 = true := by decide +kernel
set_option maxRecDepth 100000 in
theorem pt_k64 : px_okR pt_r64 = true := by decide +kernel
set_option maxRecDepth 100000 in
theorem pt_k65 : px_okR pt_r65 = true := by decide +kernel
set_option maxRecDepth 100000 in
theorem pt_k66 : px_okR pt_r66 = true := by decide +kernel
set_option maxRecDepth 100000 in
theorem pt_k67 : px_okR pt_r67 = true := by decide +kernel
set_option maxRecDepth 100000 in
theorem pt_k68 : px_okR pt_r68 = true := by decide +kernel
set_option maxRecDepth 100000 in
theorem pt_k69 : px_okR pt_r69 = true := by decide +kernel
set_option maxRecDepth 100000 in
theorem pt_k70 : px_okR pt_r70 = true := by decide +kernel
set_option maxRecDepth 100000 in
theorem pt_k71 : px_okR pt_r71 = true := by decide +kernel
set_option maxRecDepth 100000 in
theorem pt_k72 : px_okR pt_r72 = true := by decide +kernel
set_option maxRecDepth 100000 in
theorem pt_k73 : px_okR pt_r73 = true := by decide +kernel
set_option maxRecDepth 100000 in
theorem pt_k74 : px_okR pt_r74 = true := by decide +kernel
set_option maxRecDepth 100000 in
theorem pt_k75 : px_okR pt_r75 = true := by decide +kernel
set_option maxRecDepth 100000 in
theorem pt_k76 : px_okR pt_r76 = true := by decide +kernel
set_option maxRecDepth 100000 in
theorem pt_k77 : px_okR pt_r77 = true := by decide +kernel
set_option maxRecDepth 100000 in
theorem pt_k78 : px_okR pt_r78 = true := by decide +kernel
set_option maxRecDepth 100000 in
theorem pt_k79 : px_okR pt_r79 = true := by decide +kernel
set_option maxRecDepth 100000 in
theorem pt_k80 : px_okR pt_r80 = true := by decide +kernel
set_option maxRecDepth 100000 in
theorem pt_k81 : px_okR pt_r81 = true := by decide +kernel
set_option maxRecDepth 100000 in
theorem pt_k82 : px_okR pt_r82 = true := by decide +kernel
set_option maxRecDepth 100000 in
theorem pt_k83 : px_okR pt_r83 = true := by decide +kernel
set_option maxRecDepth 100000 in
theorem pt_k84 : px_okR pt_r84 = true := by decide +kernel
set_option maxRecDepth 100000 in
theorem pt_k85 : px_okR pt_r85 = true := by decide +kernel
set_option maxRecDepth 100000 in
theorem pt_k86 : px_okR pt_r86 = true := by decide +kernel
set_option maxRecDepth 100000 in
theorem pt_k87 : px_okR pt_r87 = true := by decide +kernel
set_option maxRecDepth 100000 in
theorem pt_k88 : px_okR pt_r88 = true := by decide +kernel
set_option maxRecDepth 100000 in
theorem pt_k89 : px_okR pt_r89 = true := by decide +kernel
set_option maxRecDepth 100000 in
theorem pt_k90 : px_okR pt_r90 = true := by decide +kernel
set_option maxRecDepth 100000 in
theorem pt_k91 : px_okR pt_r91 = true := by decide +kernel
set_option maxRecDepth 100000 in
theorem pt_k92 : px_okR pt_r92 = true := by decide +kernel
set_option maxRecDepth 100000 in
theorem pt_k93 : px_okR pt_r93 = true := by decide +kernel
set_option maxRecDepth 100000 in
theorem pt_k94 : px_okR pt_r94 = true := by decide +kernel
set_option maxRecDepth 100000 in
theorem pt_k95 : px_okR pt_r95 = true := by decide +kernel
set_option maxRecDepth 100000 in
theorem pt_k96 : px_okR pt_r96 = true := by decide +kernel
set_option maxRecDepth 100000 in
theorem pt_k97 : px_okR pt_r97 = true := by decide +kernel
set_option maxRecDepth 100000 in
theorem pt_k98 : px_okR pt_r98 = true := by decide +kernel
set_option maxRecDepth 100000 in
theorem pt_k99 : px_okR pt_r99 = true := by decide +kernel
set_option maxRecDepth 100000 in
theorem pt_k100 : px_okR pt_r100 = true := by decide +kernel
set_option maxRecDepth 100000 in
theorem pt_k101 : px_okR pt_r101 = true := by decide +kernel
set_option maxRecDepth 100000 in
theorem pt_k102 : px_okR pt_r102 = true := by decide +kernel
set_option maxRecDepth 100000 in
theorem pt_k103 : px_okR pt_r103 = true := by decide +kernel
set_option maxRecDepth 100000 in
theorem pt_k104 : px_okR pt_r104 = true := by decide +kernel
set_option maxRecDepth 100000 in
theorem pt_k105 : px_okR pt_r105 = true := by decide +kernel
set_option maxRecDepth 100000 in
theorem pt_k106 : px_okR pt_r106 = true := by decide +kernel
set_option maxRecDepth 100000 in
theorem pt_k107 : px_okR pt_r107 = true := by decide +kernel
set_option maxRecDepth 100000 in
theorem pt_k108 : px_okR pt_r108 = true := by decide +kernel
set_option maxRecDepth 100000 in
theorem pt_k109 : px_okR pt_r109 = true := by decide +kernel
set_option maxRecDepth 100000 in
theorem pt_k110 : px_okR pt_r110 = true := by decide +kernel
set_option maxRecDepth 100000 in
theorem pt_k111 : px_okR pt_r111 = true := by decide +kernel
set_option maxRecDepth 100000 in
theorem pt_k112 : px_okR pt_r112 = true := by decide +kernel
set_option maxRecDepth 100000 in
theorem pt_k113 : px_okR pt_r113 = true := by decide +kernel
set_option maxRecDepth 100000 in
theorem pt_k114 : px_okR pt_r114 = true := by decide +kernel
set_option maxRecDepth 100000 in
theorem pt_k115 : px_okR pt_r115 = true := by decide +kernel
set_option maxRecDepth 100000 in
theorem pt_k116 : px_okR pt_r116 = true := by decide +kernel
set_option maxRecDepth 100000 in
theorem pt_k117 : px_okR pt_r117 = true := by decide +kernel
set_option maxRecDepth 100000 in
theorem pt_k118 : px_okR pt_r118 = true := by decide +kernel
set_option maxRecDepth 100000 in
theorem pt_k119 : px_okR pt_r119 = true := by decide +kernel
set_option maxRecDepth 100000 in
theorem pt_k120 : px_okR pt_r120 = true := by decide +kernel
set_option maxRecDepth 100000 in
theorem pt_k121 : px_okR pt_r121 = true := by decide +kernel
set_option maxRecDepth 100000 in
theorem pt_k122 : px_okR pt_r122 = true := by decide +kernel
set_option maxRecDepth 100000 in
theorem pt_k123 : px_okR pt_r123 = true := by decide +kernel
set_option maxRecDepth 100000 in
theorem pt_k124 : px_okR pt_r124 = true := by decide +kernel
set_option maxRecDepth 100000 in
theorem pt_k125 : px_okR pt_r125 = true := by decide +kernel
set_option maxRecDepth 100000 in
theorem pt_k126 : px_okR pt_r126 = true := by decide +kernel
set_option maxRecDepth 100000 in
theorem pt_k127 : px_okR pt_r127 = true := by decide +kernel
set_option maxRecDepth 100000 in
theorem pt_k128 : px_okR pt_r128 = true := by decide +kernel
set_option maxRecDepth 100000 in
theorem pt_k129 : px_okR pt_r129 = true := by decide +kernel
set_option maxRecDepth 100000 in
theorem pt_k130 : px_okR pt_r130 = true := by decide +kernel
set_option maxRecDepth 100000 in
theorem pt_k131 : px_okR pt_r131 = true := by decide +kernel
set_option maxRecDepth 100000 in
theorem pt_k132 : px_okR pt_r132 = true := by decide +kernel
set_option maxRecDepth 100000 in
theorem pt_k133 : px_okR pt_r133 = true := by decide +kernel
set_option maxRecDepth 100000 in
theorem pt_k134 : px_okR pt_r134 = true := by decide +kernel
set_option maxRecDepth 100000 in
theorem pt_k135 : px_okR pt_r135 = true := by decide +kernel
set_option maxRecDepth 100000 in
theorem pt_k136 : px_okR pt_r136 = true := by decide +kernel
set_option maxRecDepth 100000 in
theorem pt_k137 : px_okR pt_r137 = true := by decide +kernel
set_option maxRecDepth 100000 in
theorem pt_k138 : px_okR pt_r138 = true := by decide +kernel
set_option maxRecDepth 100000 in
theorem pt_k139 : px_okR pt_r139 = true := by decide +kernel
set_option maxRecDepth 100000 in
theorem pt_k140 : px_okR pt_r140 = true := by decide +kernel
set_option maxRecDepth 100000 in
theorem pt_k141 : px_okR pt_r141 = true := by decide +kernel
set_option maxRecDepth 100000 in
theorem pt_k142 : px_okR pt_r142 = true := by decide +kernel
set_option maxRecDepth 100000 in
theorem pt_k143 : px_okR pt_r143 = true := by decide +kernel
set_option maxRecDepth 100000 in
theorem pt_k144 : px_okR pt_r144 = true := by decide +kernel
set_option maxRecDepth 100000 in
theorem pt_k145 : px_okR pt_r145 = true := by decide +kernel
set_option maxRecDepth 100000 in
theorem pt_k146 : px_okR pt_r146 = true := by decide +kernel
set_option maxRecDepth 100000 in
theorem pt_k147 : px_okR pt_r147 = true := by decide +kernel
set_option maxRecDepth 100000 in
theorem pt_k148 : px_okR pt_r148 = true := by decide +kernel
set_option maxRecDepth 100000 in
theorem pt_k149 : px_okR pt_r149 = true := by decide +kernel
set_option maxRecDepth 100000 in
theorem pt_k150 : px_okR pt_r150 = true := by decide +kernel
set_option maxRecDepth 100000 in
theorem pt_k151 : px_okR pt_r151 = true := by decide +kernel
set_option maxRecDepth 100000 in
theorem pt_k152 : px_okR pt_r152 = true := by decide +kernel
set_option maxRecDepth 100000 in
theorem pt_k153 : px_okR pt_r153 = true := by decide +kernel
set_option maxRecDepth 100000 in
theorem pt_k154 : px_okR pt_r154 = true := by decide +kernel
set_option maxRecDepth 100000 in
theorem pt_k155 : px_okR pt_r155 = true := by decide +kernel
set_option maxRecDepth 100000 in
theorem pt_k156 : px_okR pt_r156 = true := by decide +kernel
set_option maxRecDepth 100000 in
theorem pt_k157 : px_okR pt_r157 = true := by decide +kernel
set_option maxRecDepth 100000 in
theorem pt_k158 : px_okR pt_r158 = true := by decide +kernel
set_option maxRecDepth 100000 in
theorem pt_k159 : px_okR pt_r159 = true := by decide +kernel
set_option maxRecDepth 100000 in
theorem pt_k160 : px_okR pt_r160 = true := by decide +kernel
set_option maxRecDepth 100000 in
theorem pt_k161 : px_okR pt_r161 = true := by decide +kernel
set_option maxRecDepth 100000 in
theorem pt_k162 : px_okR pt_r162 = true := by decide +kernel
set_option maxRecDepth 100000 in
theorem pt_k163 : px_okR pt_r163 = true := by decide +kernel
set_option maxRecDepth 100000 in
theorem pt_k164 : px_okR pt_r164 = true := by decide +kernel
set_option maxRecDepth 100000 in
theorem pt_k165 : px_okR pt_r165 = true := by decide +kernel
set_option maxRecDepth 100000 in
theorem pt_k166 : px_okR pt_r166 = true := by decide +kernel
set_option maxRecDepth 100000 in
theorem pt_k167 : px_okR pt_r167 = true := by decide +kernel
set_option maxRecDepth 100000 in
theorem pt_k168 : px_okR pt_r168 = true := by decide +kernel
set_option maxRecDepth 100000 in
theorem pt_k169 : px_okR pt_r169 = true := by decide +kernel
set_option maxRecDepth 100000 in
theorem pt_k170 : px_okR pt_r170 = true := by decide +kernel
set_option maxRecDepth 100000 in
theorem pt_k171 : px_okR pt_r171 = true := by decide +kernel
set_option maxRecDepth 100000 in
theorem pt_k172 : px_okR pt_r172 = true := by decide +kernel
set_option maxRecDepth 100000 in
theorem pt_k173 : px_okR pt_r173 = true := by decide +kernel
set_option maxRecDepth 100000 in
theorem pt_k174 : px_okR pt_r174 = true := by decide +kernel
set_option maxRecDepth 100000 in
theorem pt_k175 : px_okR pt_r175 = true := by decide +kernel
set_option maxRecDepth 100000 in
theorem pt_k176 : px_okR pt_r176 = true := by decide +kernel
set_option maxRecDepth 100000 in
theorem pt_k177 : px_okR pt_r177 = true := by decide +kernel
set_option maxRecDepth 100000 in
theorem pt_k178 : px_okR pt_r178 = true := by decide +kernel
set_option maxRecDepth 100000 in
theorem pt_k179 : px_okR pt_r179 = true := by decide +kernel
set_option maxRecDepth 100000 in
theorem pt_k180 : px_okR pt_r180 = true := by decide +kernel
set_option maxRecDepth 100000 in
theorem pt_k181 : px_okR pt_r181 = true := by decide +kernel
set_option maxRecDepth 100000 in
theorem pt_k182 : px_okR pt_r182 = true := by decide +kernel
set_option maxRecDepth 100000 in
theorem pt_k183 : px_okR pt_r183 = true := by decide +kernel
set_option maxRecDepth 100000 in
theorem pt_k184 : px_okR pt_r184 = true := by decide +kernel
set_option maxRecDepth 100000 in
theorem pt_k185 : px_okR pt_r185 = true := by decide +kernel
set_option maxRecDepth 100000 in
theorem pt_k186 : px_okR pt_r186 = true := by decide +kernel
set_option maxRecDepth 100000 in
theorem pt_k187 : px_okR pt_r187 = true := by decide +kernel
set_option maxRecDepth 100000 in
theorem pt_k188 : px_okR pt_r188 = true := by decide +kernel
set_option maxRecDepth 100000 in
theorem pt_k189 : px_okR pt_r189 = true := by decide +kernel
set_option maxRecDepth 100000 in
theorem pt_k190 : px_okR pt_r190 = true := by decide +kernel
set_option maxRecDepth 100000 in
theorem pt_k191 : px_okR pt_r191 = true := by decide +kernel
set_option maxRecDepth 100000 in
theorem pt_k192 : px_okR pt_r192 = true := by decide +kernel
set_option maxRecDepth 100000 in
theorem pt_k193 : px_okR pt_r193 = true := by decide +kernel
set_option maxRecDepth 100000 in
theorem pt_k194 : px_okR pt_r194 = true := by decide +kernel
set_option maxRecDepth 100000 in
theorem pt_k195 : px_okR pt_r195 = true := by decide +kernel
set_option maxRecDepth 100000 in
theorem pt_k196 : px_okR pt_r196 = true := by decide +kernel
set_option maxRecDepth 100000 in
theorem pt_k197 : px_okR pt_r197 = true := by decide +kernel
set_option maxRecDepth 100000 in
theorem pt_k198 : px_okR pt_r198 = true := by decide +kernel
set_option maxRecDepth 100000 in
theorem pt_k199 : px_okR pt_r199 = true := by decide +kernel
set_option maxRecDepth 100000 in
theorem pt_k200 : px_okR pt_r200 = true := by decide +kernel
set_option maxRecDepth 100000 in
theorem pt_k201 : px_okR pt_r201 = true := by decide +kernel
set_option maxRecDepth 100000 in
theorem pt_k202 : px_okR pt_r202 = true := by decide +kernel
set_option maxRecDepth 100000 in
theorem pt_k203 : px_okR pt_r203 = true := by decide +kernel
set_option maxRecDepth 100000 in
theorem pt_k204 : px_okR pt_r204 = true := by decide +kernel
set_option maxRecDepth 100000 in
theorem pt_k205 : px_okR pt_r205 = true := by decide +kernel
set_option maxRecDepth 100000 in
theorem pt_k206 : px_okR pt_r206 = true := by decide +kernel
set_option maxRecDepth 100000 in
theorem pt_k207 : px_okR pt_r207 = true := by decide +kernel
set_option maxRecDepth 100000 in
theorem pt_k208 : px_okR pt_r208 = true := by decide +kernel
set_option maxRecDepth 100000 in
theorem pt_k209 : px_okR pt_r209 = true := by decide +kernel
set_option maxRecDepth 100000 in
theorem pt_k210 : px_okR pt_r210 = true := by decide +kernel
set_option maxRecDepth 100000 in
theorem pt_k211 : px_okR pt_r211 = true := by decide +kernel
set_option maxRecDepth 100000 in
theorem pt_k212 : px_okR pt_r212 = true := by decide +kernel
set_option maxRecDepth 100000 in
theorem pt_k213 : px_okR pt_r213 = true := by decide +kernel
set_option maxRecDepth 100000 in
theorem pt_k214 : px_okR pt_r214 = true := by decide +kernel
set_option maxRecDepth 100000 in
theorem pt_k215 : px_okR pt_r215 = true := by decide +kernel
set_option maxRecDepth 100000 in
theorem pt_k216 : px_okR pt_r216 = true := by decide +kernel
set_option maxRecDepth 100000 in
theorem pt_k217 : px_okR pt_r217 = true := by decide +kernel
set_option maxRecDepth 100000 in
theorem pt_k218 : px_okR pt_r218 = true := by decide +kernel
set_option maxRecDepth 100000 in
theorem pt_k219 : px_okR pt_r219 = true := by decide +kernel
set_option maxRecDepth 100000 in
theorem pt_k220 : px_okR pt_r220 = true := by decide +kernel
set_option maxRecDepth 100000 in
theorem pt_k221 : px_okR pt_r221 = true := by decide +kernel
set_option maxRecDepth 100000 in
theorem pt_k222 : px_okR pt_r222 = true := by decide +kernel
set_option maxRecDepth 100000 in
theorem pt_k223 : px_okR pt_r223 = true := by decide +kernel
set_option maxRecDepth 100000 in
theorem pt_k224 : px_okR pt_r224 = true := by decide +kernel
set_option maxRecDepth 100000 in
theorem pt_k225 : px_okR pt_r225 = true := by decide +kernel
set_option maxRecDepth 100000 in
theorem pt_k226 : px_okR pt_r226 = true := by decide +kernel
set_option maxRecDepth 100000 in
theorem pt_k227 : px_okR pt_r227 = true := by decide +kernel
set_option maxRecDepth 100000 in
theorem pt_k228 : px_okR pt_r228 = true := by decide +kernel
set_option maxRecDepth 100000 in
theorem pt_k229 : px_okR pt_r229 = true := by decide +kernel
set_option maxRecDepth 100000 in
theorem pt_k230 : px_okR pt_r230 = true := by decide +kernel
set_option maxRecDepth 100000 in
theorem pt_k231 : px_okR pt_r231 = true := by decide +kernel
set_option maxRecDepth 100000 in
theorem pt_k232 : px_okR pt_r232 = true := by decide +kernel
set_option maxRecDepth 100000 in
theorem pt_k233 : px_okR pt_r233 = true := by decide +kernel
set_option maxRecDepth 100000 in
theorem pt_k234 : px_okR pt_r234 = true := by decide +kernel
set_option maxRecDepth 100000 in
theorem pt_k235 : px_okR pt_r235 = true := by decide +kernel
set_option maxRecDepth 100000 in
theorem pt_k236 : px_okR pt_r236 = true := by decide +kernel
set_option maxRecDepth 100000 in
theorem pt_k237 : px_okR pt_r237 = true := by decide +kernel
set_option maxRecDepth 100000 in
theorem pt_k238 : px_okR pt_r238 = true := by decide +kernel
set_option maxRecDepth 100000 in
theorem pt_k239 : px_okR pt_r239 = true := by decide +kernel
set_option maxRecDepth 100000 in
theorem pt_k240 : px_okR pt_r240 = true := by decide +kernel
set_option maxRecDepth 100000 in
theorem pt_k241 : px_okR pt_r241 = true := by decide +kernel
set_option maxRecDepth 100000 in
theorem pt_k242 : px_okR pt_r242 = true := by decide +kernel
set_option maxRecDepth 100000 in
theorem pt_k243 : px_okR pt_r243 = true := by decide +kernel
set_option maxRecDepth 100000 in
theorem pt_k244 : px_okR pt_r244 = true := by decide +kernel
set_option maxRecDepth 100000 in
theorem pt_k245 : px_okR pt_r245 = true := by decide +kernel
set_option maxRecDepth 100000 in
theorem pt_k246 : px_okR pt_r246 = true := by decide +kernel
set_option maxRecDepth 100000 in
theorem pt_k247 : px_okR pt_r247 = true := by decide +kernel
set_option maxRecDepth 100000 in
theorem pt_k248 : px_okR pt_r248 = true := by decide +kernel
set_option maxRecDepth 100000 in
theorem pt_k249 : px_okR pt_r249 = true := by decide +kernel
set_option maxRecDepth 100000 in
theorem pt_k250 : px_okR pt_r250 = true := by decide +kernel
set_option maxRecDepth 100000 in
theorem pt_k251 : px_okR pt_r251 = true := by decide +kernel
set_option maxRecDepth 100000 in
theorem pt_k252 : px_okR pt_r252 = true := by decide +kernel
set_option maxRecDepth 100000 in
theorem pt_k253 : px_okR pt_r253 = true := by decide +kernel
set_option maxRecDepth 100000 in
theorem pt_k254 : px_okR pt_r254 = true := by decide +kernel
set_option maxRecDepth 100000 in
theorem pt_k255 : px_okR pt_r255 = true := by decide +kernel
set_option maxRecDepth 100000 in
theorem pt_k256 : px_okR pt_r256 = true := by decide +kernel
set_option maxRecDepth 100000 in
theorem pt_k257 : px_okR pt_r257 = true := by decide +kernel
set_option maxRecDepth 100000 in
theorem pt_k258 : px_okR pt_r258 = true := by decide +kernel
set_option maxRecDepth 100000 in
theorem pt_k259 : px_okR pt_r259 = true := by decide +kernel
set_option maxRecDepth 100000 in
theorem pt_k260 : px_okR pt_r260 = true := by decide +kernel
set_option maxRecDepth 100000 in
theorem pt_k261 : px_okR pt_r261 = true := by decide +kernel
set_option maxRecDepth 100000 in
theorem pt_k262 : px_okR pt_r262 = true := by decide +kernel
set_option maxRecDepth 100000 in
theorem pt_k263 : px_okR pt_r263 = true := by decide +kernel
set_option maxRecDepth 100000 in
theorem pt_k264 : px_okR pt_r264 = true := by decide +kernel
set_option maxRecDepth 100000 in
theorem pt_k265 : px_okR pt_r265 = true := by decide +kernel
set_option maxRecDepth 100000 in
theorem pt_k266 : px_okR pt_r266 = true := by decide +kernel
set_option maxRecDepth 100000 in
theorem pt_k267 : px_okR pt_r267 = true := by decide +kernel
set_option maxRecDepth 100000 in
theorem pt_k268 : px_okR pt_r268 = true := by decide +kernel
set_option maxRecDepth 100000 in
theorem pt_k269 : px_okR pt_r269 = true := by decide +kernel
set_option maxRecDepth 100000 in
theorem pt_k270 : px_okR pt_r270 = true := by decide +kernel
set_option maxRecDepth 100000 in
theorem pt_k271 : px_okR pt_r271 = true := by decide +kernel
set_option maxRecDepth 100000 in
theorem pt_k272 : px_okR pt_r272 = true := by decide +kernel
set_option maxRecDepth 100000 in
theorem pt_k273 : px_okR pt_r273 = true := by decide +kernel
set_option maxRecDepth 100000 in
theorem pt_k274 : px_okR pt_r274 = true := by decide +kernel
set_option maxRecDepth 100000 in
theorem pt_k275 : px_okR pt_r275 = true := by decide +kernel
set_option maxRecDepth 100000 in
theorem pt_k276 : px_okR pt_r276 = true := by decide +kernel
set_option maxRecDepth 100000 in
theorem pt_k277 : px_okR pt_r277 = true := by decide +kernel
set_option maxRecDepth 100000 in
theorem pt_k278 : px_okR pt_r278 = true := by decide +kernel
set_option maxRecDepth 100000 in
theorem pt_k279 : px_okR pt_r279 = true := by decide +kernel
set_option maxRecDepth 100000 in
theorem pt_k280 : px_okR pt_r280 = true := by decide +kernel
set_option maxRecDepth 100000 in
theorem pt_k281 : px_okR pt_r281 = true := by decide +kernel
set_option maxRecDepth 100000 in
theorem pt_k282 : px_okR pt_r282 = true := by decide +kernel
set_option maxRecDepth 100000 in
theorem pt_k283 : px_okR pt_r283 = true := by decide +kernel
set_option maxRecDepth 100000 in
theorem pt_k284 : px_okR pt_r284 = true := by decide +kernel
set_option maxRecDepth 100000 in
theorem pt_k285 : px_okR pt_r285 = true := by decide +kernel
set_option maxRecDepth 100000 in
theorem pt_k286 : px_okR pt_r286 = true := by decide +kernel
set_option maxRecDepth 100000 in
theorem pt_k287 : px_okR pt_r287 = true := by decide +kernel
set_option maxRecDepth 100000 in
theorem pt_k288 : px_okR pt_r288 = true := by decide +kernel
set_option maxRecDepth 100000 in
theorem pt_k289 : px_okR pt_r289 = true := by decide +kernel
set_option maxRecDepth 100000 in
theorem pt_k290 : px_okR pt_r290 = true := by decide +kernel
set_option maxRecDepth 100000 in
theorem pt_k291 : px_okR pt_r291 = true := by decide +kernel
set_option maxRecDepth 100000 in
theorem pt_k292 : px_okR pt_r292 = true := by decide +kernel
set_option maxRecDepth 100000 in
theorem pt_k293 : px_okR pt_r293 = true := by decide +kernel
set_option maxRecDepth 100000 in
theorem pt_k294 : px_okR pt_r294 = true := by decide +kernel
set_option maxRecDepth 100000 in
theorem pt_k295 : px_okR pt_r295 = true := by decide +kernel
set_option maxRecDepth 100000 in
theorem pt_k296 : px_okR pt_r296 = true := by decide +kernel
set_option maxRecDepth 100000 in
theorem pt_k297 : px_okR pt_r297 = true := by decide +kernel
set_option maxRecDepth 100000 in
theorem pt_k298 : px_okR pt_r298 = true := by decide +kernel
set_option maxRecDepth 100000 in
theorem pt_k299 : px_okR pt_r299 = true := by decide +kernel
set_option maxRecDepth 100000 in
theorem pt_k300 : px_okR pt_r300 = true := by decide +kernel
set_option maxRecDepth 100000 in
theorem pt_k301 : px_okR pt_r301 = true := by decide +kernel
set_option maxRecDepth 100000 in
theorem pt_k302 : px_okR pt_r302 = true := by decide +kernel
set_option maxRecDepth 100000 in
theorem pt_k303 : px_okR pt_r303 = true := by decide +kernel
set_option maxRecDepth 100000 in
theorem pt_k304 : px_okR pt_r304 = true := by decide +kernel
set_option maxRecDepth 100000 in
theorem pt_k305 : px_okR pt_r305 = true := by decide +kernel
set_option maxRecDepth 100000 in
theorem pt_k306 : px_okR pt_r306 = true := by decide +kernel
set_option maxRecDepth 100000 in
theorem pt_k307 : px_okR pt_r307 = true := by decide +kernel
set_option maxRecDepth 100000 in
theorem pt_k308 : px_okR pt_r308 = true := by decide +kernel
set_option maxRecDepth 100000 in
theorem pt_k309 : px_okR pt_r309 = true := by decide +kernel
set_option maxRecDepth 100000 in
theorem pt_k310 : px_okR pt_r310 = true := by decide +kernel
set_option maxRecDepth 100000 in
theorem pt_k311 : px_okR pt_r311 = true := by decide +kernel
set_option maxRecDepth 100000 in
theorem pt_k312 : px_okR pt_r312 = true := by decide +kernel
set_option maxRecDepth 100000 in
theorem pt_k313 : px_okR pt_r313 = true := by decide +kernel
set_option maxRecDepth 100000 in
theorem pt_k314 : px_okR pt_r314 = true := by decide +kernel
set_option maxRecDepth 100000 in
theorem pt_k315 : px_okR pt_r315 = true := by decide +kernel
set_option maxRecDepth 100000 in
theorem pt_k316 : px_okR pt_r316 = true := by decide +kernel
set_option maxRecDepth 100000 in
theorem pt_k317 : px_okR pt_r317 = true := by decide +kernel
set_option maxRecDepth 100000 in
theorem pt_k318 : px_okR pt_r318 = true := by decide +kernel
set_option maxRecDepth 100000 in
theorem pt_k319 : px_okR pt_r319 = true := by decide +kernel
set_option maxRecDepth 100000 in
theorem pt_k320 : px_okR pt_r320 = true := by decide +kernel
set_option maxRecDepth 100000 in
theorem pt_k321 : px_okR pt_r321 = true := by decide +kernel
set_option maxRecDepth 100000 in
theorem pt_k322 : px_okR pt_r322 = true := by decide +kernel
set_option maxRecDepth 100000 in
theorem pt_k323 : px_okR pt_r323 = true := by decide +kernel
set_option maxRecDepth 100000 in
theorem pt_k324 : px_okR pt_r324 = true := by decide +kernel
set_option maxRecDepth 100000 in
theorem pt_k325 : px_okR pt_r325 = true := by decide +kernel
set_option maxRecDepth 100000 in
theorem pt_k326 : px_okR pt_r326 = true := by decide +kernel
set_option maxRecDepth 100000 in
theorem pt_k327 : px_okR pt_r327 = true := by decide +kernel
set_option maxRecDepth 100000 in
theorem pt_k328 : px_okR pt_r328 = true := by decide +kernel
set_option maxRecDepth 100000 in
theorem pt_k329 : px_okR pt_r329 = true := by decide +kernel
set_option maxRecDepth 100000 in
theorem pt_k330 : px_okR pt_r330 = true := by decide +kernel
set_option maxRecDepth 100000 in
theorem pt_k331 : px_okR pt_r331 = true := by decide +kernel
set_option maxRecDepth 100000 in
theorem pt_k332 : px_okR pt_r332 = true := by decide +kernel
set_option maxRecDepth 100000 in
theorem pt_k333 : px_okR pt_r333 = true := by decide +kernel
set_option maxRecDepth 100000 in
theorem pt_k334 : px_okR pt_r334 = true := by decide +kernel
set_option maxRecDepth 100000 in
theorem pt_k335 : px_okR pt_r335 = true := by decide +kernel
set_option maxRecDepth 100000 in
theorem pt_k336 : px_okR pt_r336 = true := by decide +kernel
set_option maxRecDepth 100000 in
theorem pt_k337 : px_okR pt_r337 = true := by decide +kernel
set_option maxRecDepth 100000 in
theorem pt_k338 : px_okR pt_r338 = true := by decide +kernel
set_option maxRecDepth 100000 in
theorem pt_k339 : px_okR pt_r339 = true := by decide +kernel
set_option maxRecDepth 100000 in
theorem pt_k340 : px_okR pt_r340 = true := by decide +kernel
set_option maxRecDepth 100000 in
theorem pt_k341 : px_okR pt_r341 = true := by decide +kernel
set_option maxRecDepth 100000 in
theorem pt_k342 : px_okR pt_r342 = true := by decide +kernel
set_option maxRecDepth 100000 in
theorem pt_k343 : px_okR pt_r343 = true := by decide +kernel
set_option maxRecDepth 100000 in
theorem pt_k344 : px_okR pt_r344 = true := by decide +kernel
set_option maxRecDepth 100000 in
theorem pt_k345 : px_okR pt_r345 = true := by decide +kernel
set_option maxRecDepth 100000 in
theorem pt_k346 : px_okR pt_r346 = true := by decide +kernel
set_option maxRecDepth 100000 in
theorem pt_k347 : px_okR pt_r347 = true := by decide +kernel
set_option maxRecDepth 100000 in
theorem pt_k348 : px_okR pt_r348 = true := by decide +kernel
set_option maxRecDepth 100000 in
theorem pt_k349 : px_okR pt_r349 = true := by decide +kernel
set_option maxRecDepth 100000 in
theorem pt_k350 : px_okR pt_r350 = true := by decide +kernel
set_option maxRecDepth 100000 in
theorem pt_k351 : px_okR pt_r351 = true := by decide +kernel
set_option maxRecDepth 100000 in
theorem pt_k352 : px_okR pt_r352 = true := by decide +kernel
set_option maxRecDepth 100000 in
theorem pt_k353 : px_okR pt_r353 = true := by decide +kernel
set_option maxRecDepth 100000 in
theorem pt_k354 : px_okR pt_r354 = true := by decide +kernel
set_option maxRecDepth 100000 in
theorem pt_k355 : px_okR pt_r355 = true := by decide +kernel
set_option maxRecDepth 100000 in
theorem pt_k356 : px_okR pt_r356 = true := by decide +kernel
set_option maxRecDepth 100000 in
theorem pt_k357 : px_okR pt_r357 = true := by decide +kernel
set_option maxRecDepth 100000 in
theorem pt_k358 : px_okR pt_r358 = true := by decide +kernel
set_option maxRecDepth 100000 in
theorem pt_k359 : px_okR pt_r359 = true := by decide +kernel
set_option maxRecDepth 100000 in
theorem pt_k360 : px_okR pt_r360 = true := by decide +kernel
set_option maxRecDepth 100000 in
theorem pt_k361 : px_okR pt_r361 = true := by decide +kernel
set_option maxRecDepth 100000 in
theorem pt_k362 : px_okR pt_r362 = true := by decide +kernel
set_option maxRecDepth 100000 in
theorem pt_k363 : px_okR pt_r363 = true := by decide +kernel
set_option maxRecDepth 100000 in
theorem pt_k364 : px_okR pt_r364 = true := by decide +kernel
set_option maxRecDepth 100000 in
theorem pt_k365 : px_okR pt_r365 = true := by decide +kernel
set_option maxRecDepth 100000 in
theorem pt_k366 : px_okR pt_r366 = true := by decide +kernel
set_option maxRecDepth 100000 in
theorem pt_k367 : px_okR pt_r367 = true := by decide +kernel
set_option maxRecDepth 100000 in
theorem pt_k368 : px_okR pt_r368 = true := by decide +kernel
set_option maxRecDepth 100000 in
theorem pt_k369 : px_okR pt_r369 = true := by decide +kernel
set_option maxRecDepth 100000 in
theorem pt_k370 : px_okR pt_r370 = true := by decide +kernel
set_option maxRecDepth 100000 in
theorem pt_k371 : px_okR pt_r371 = true := by decide +kernel
set_option maxRecDepth 100000 in
theorem pt_k372 : px_okR pt_r372 = true := by decide +kernel
set_option maxRecDepth 100000 in
theorem pt_k373 : px_okR pt_r373 = true := by decide +kernel
set_option maxRecDepth 100000 in
theorem pt_k374 : px_okR pt_r374 = true := by decide +kernel
set_option maxRecDepth 100000 in
theorem pt_k375 : px_okR pt_r375 = true := by decide +kernel
set_option maxRecDepth 100000 in
theorem pt_k376 : px_okR pt_r376 = true := by decide +kernel
set_option maxRecDepth 100000 in
theorem pt_k377 : px_okR pt_r377 = true := by decide +kernel
set_option maxRecDepth 100000 in
theorem pt_k378 : px_okR pt_r378 = true := by decide +kernel
set_option maxRecDepth 100000 in
theorem pt_k379 : px_okR pt_r379 = true := by decide +kernel
set_option maxRecDepth 100000 in
theorem pt_k380 : px_okR pt_r380 = true := by decide +kernel
set_option maxRecDepth 100000 in
theorem pt_k381 : px_okR pt_r381 = true := by decide +kernel
set_option maxRecDepth 100000 in
theorem pt_k382 : px_okR pt_r382 = true := by decide +kernel
set_option maxRecDepth 100000 in
theorem pt_k383 : px_okR pt_r383 = true := by decide +kernel
set_option maxRecDepth 100000 in
theorem pt_k384 : px_okR pt_r384 = true := by decide +kernel
set_option maxRecDepth 100000 in
theorem pt_k385 : px_okR pt_r385 = true := by decide +kernel
set_option maxRecDepth 100000 in
theorem pt_k386 : px_okR pt_r386 = true := by decide +kernel
set_option maxRecDepth 100000 in
theorem pt_k387 : px_okR pt_r387 = true := by decide +kernel
set_option maxRecDepth 100000 in
theorem pt_k388 : px_okR pt_r388 = true := by decide +kernel
set_option maxRecDepth 100000 in
theorem pt_k389 : px_okR pt_r389 = true := by decide +kernel
set_option maxRecDepth 100000 in
theorem pt_k390 : px_okR pt_r390 = true := by decide +kernel
set_option maxRecDepth 100000 in
theorem pt_k391 : px_okR pt_r391 = true := by decide +kernel
set_option maxRecDepth 100000 in
theorem pt_k392 : px_okR pt_r392 = true := by decide +kernel
set_option maxRecDepth 100000 in
theorem pt_k393 : px_okR pt_r393 = true := by decide +kernel
set_option maxRecDepth 100000 in
theorem pt_k394 : px_okR pt_r394 = true := by decide +kernel
set_option maxRecDepth 100000 in
theorem pt_k395 : px_okR pt_r395 = true := by decide +kernel
set_option maxRecDepth 100000 in
theorem pt_k396 : px_okR pt_r396 = true := by decide +kernel
set_option maxRecDepth 100000 in
theorem pt_k397 : px_okR pt_r397 = true := by decide +kernel
set_option maxRecDepth 100000 in
theorem pt_k398 : px_okR pt_r398 = true := by decide +kernel
set_option maxRecDepth 100000 in
theorem pt_k399 : px_okR pt_r399 = true := by decide +kernel
set_option maxRecDepth 100000 in
theorem pt_k400 : px_okR pt_r400 = true := by decide +kernel
set_option maxRecDepth 100000 in
theorem pt_k401 : px_okR pt_r401 = true := by decide +kernel
set_option maxRecDepth 100000 in
theorem pt_k402 : px_okR pt_r402 = true := by decide +kernel
set_option maxRecDepth 100000 in
theorem pt_k403 : px_okR pt_r403 = true := by decide +kernel
set_option maxRecDepth 100000 in
theorem pt_k404 : px_okR pt_r404 = true := by decide +kernel
set_option maxRecDepth 100000 in
theorem pt_k405 : px_okR pt_r405 = true := by decide +kernel
set_option maxRecDepth 100000 in
theorem pt_k406 : px_okR pt_r406 = true := by decide +kernel
set_option maxRecDepth 100000 in
theorem pt_k407 : px_okR pt_r407 = true := by decide +kernel
set_option maxRecDepth 100000 in
theorem pt_k408 : px_okR pt_r408 = true := by decide +kernel
set_option maxRecDepth 100000 in
theorem pt_k409 : px_okR pt_r409 = true := by decide +kernel
set_option maxRecDepth 100000 in
theorem pt_k410 : px_okR pt_r410 = true := by decide +kernel
set_option maxRecDepth 100000 in
theorem pt_k411 : px_okR pt_r411 = true := by decide +kernel
set_option maxRecDepth 100000 in
theorem pt_k412 : px_okR pt_r412 = true := by decide +kernel
