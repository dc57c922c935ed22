def px_cwP (q : Nat × Nat) : Prop := q.1 ≠ 279 → px_lk2 q.2 = some (.code (px_Y q.1) (px_B q.1) (px_mL q.1) (px_R q.1))
set_option maxRecDepth 100000 in
theorem px_k0 : px_cwP (0, 1040) := fun _ => rfl
set_option maxRecDepth 100000 in
theorem px_k1 : px_cwP (1, 4138) := fun _ => rfl
set_option maxRecDepth 100000 in
theorem px_k2 : px_cwP (2, 4186) := fun _ => rfl
set_option maxRecDepth 100000 in
theorem px_k3 : px_cwP (3, 1148) := fun _ => rfl
set_option maxRecDepth 100000 in
theorem px_k4 : px_cwP (4, 4037) := fun _ => rfl
set_option maxRecDepth 100000 in
theorem px_k5 : px_cwP (5, 3229) := fun _ => rfl
set_option maxRecDepth 100000 in
theorem px_k6 : px_cwP (6, 3225) := fun _ => rfl
set_option maxRecDepth 100000 in
theorem px_k7 : px_cwP (7, 4082) := fun _ => rfl
set_option maxRecDepth 100000 in
theorem px_k8 : px_cwP (8, 5020) := fun _ => rfl
set_option maxRecDepth 100000 in
theorem px_k9 : px_cwP (9, 5065) := fun _ => rfl
set_option maxRecDepth 100000 in
theorem px_k10 : px_cwP (10, 5073) := fun _ => rfl
set_option maxRecDepth 100000 in
theorem px_k11 : px_cwP (11, 5077) := fun _ => rfl
set_option maxRecDepth 100000 in
theorem px_k12 : px_cwP (12, 1114) := fun _ => rfl
set_option maxRecDepth 100000 in
theorem px_k13 : px_cwP (13, 4030) := fun _ => rfl
set_option maxRecDepth 100000 in
theorem px_k14 : px_cwP (14, 3193) := fun _ => rfl
set_option maxRecDepth 100000 in
theorem px_k15 : px_cwP (15, 3213) := fun _ => rfl
set_option maxRecDepth 100000 in
theorem px_k16 : px_cwP (16, 5001) := fun _ => rfl
set_option maxRecDepth 100000 in
theorem px_k17 : px_cwP (17, 4113) := fun _ => rfl
set_option maxRecDepth 100000 in
theorem px_k18 : px_cwP (18, 4117) := fun _ => rfl
set_option maxRecDepth 100000 in
theorem px_k19 : px_cwP (19, 4121) := fun _ => rfl
set_option maxRecDepth 100000 in
theorem px_k20 : px_cwP (20, 2158) := fun _ => rfl
set_option maxRecDepth 100000 in
theorem px_k21 : px_cwP (21, 2231) := fun _ => rfl
set_option maxRecDepth 100000 in
theorem px_k22 : px_cwP (22, 5034) := fun _ => rfl
set_option maxRecDepth 100000 in
theorem px_k23 : px_cwP (23, 5038) := fun _ => rfl
set_option maxRecDepth 100000 in
theorem px_k24 : px_cwP (24, 4227) := fun _ => rfl
set_option maxRecDepth 100000 in
theorem px_k25 : px_cwP (25, 5005) := fun _ => rfl
set_option maxRecDepth 100000 in
theorem px_k26 : px_cwP (26, 5010) := fun _ => rfl
set_option maxRecDepth 100000 in
theorem px_k27 : px_cwP (27, 5015) := fun _ => rfl
set_option maxRecDepth 100000 in
theorem px_k28 : px_cwP (28, 5025) := fun _ => rfl
set_option maxRecDepth 100000 in
theorem px_k29 : px_cwP (29, 5029) := fun _ => rfl
set_option maxRecDepth 100000 in
theorem px_k30 : px_cwP (30, 5042) := fun _ => rfl
set_option maxRecDepth 100000 in
theorem px_k31 : px_cwP (31, 2145) := fun _ => rfl
set_option maxRecDepth 100000 in
theorem px_k32 : px_cwP (32, 5050) := fun _ => rfl
set_option maxRecDepth 100000 in
theorem px_k33 : px_cwP (33, 5057) := fun _ => rfl
set_option maxRecDepth 100000 in
theorem px_k34 : px_cwP (34, 1175) := fun _ => rfl
set_option maxRecDepth 100000 in
theorem px_k35 : px_cwP (35, 4047) := fun _ => rfl
set_option maxRecDepth 100000 in
theorem px_k36 : px_cwP (36, 4022) := fun _ => rfl
set_option maxRecDepth 100000 in
theorem px_k37 : px_cwP (37, 4014) := fun _ => rfl
set_option maxRecDepth 100000 in
theorem px_k38 : px_cwP (38, 2083) := fun _ => rfl
set_option maxRecDepth 100000 in
theorem px_k39 : px_cwP (39, 3037) := fun _ => rfl
set_option maxRecDepth 100000 in
theorem px_k40 : px_cwP (40, 3100) := fun _ => rfl
set_option maxRecDepth 100000 in
theorem px_k41 : px_cwP (41, 3041) := fun _ => rfl
set_option maxRecDepth 100000 in
theorem px_k42 : px_cwP (42, 3044) := fun _ => rfl
set_option maxRecDepth 100000 in
theorem px_k43 : px_cwP (43, 3047) := fun _ => rfl
set_option maxRecDepth 100000 in
theorem px_k44 : px_cwP (44, 3177) := fun _ => rfl
set_option maxRecDepth 100000 in
theorem px_k45 : px_cwP (45, 3181) := fun _ => rfl
set_option maxRecDepth 100000 in
theorem px_k46 : px_cwP (46, 3209) := fun _ => rfl
set_option maxRecDepth 100000 in
theorem px_k47 : px_cwP (47, 3197) := fun _ => rfl
set_option maxRecDepth 100000 in
theorem px_k48 : px_cwP (48, 3168) := fun _ => rfl
set_option maxRecDepth 100000 in
theorem px_k49 : px_cwP (49, 3164) := fun _ => rfl
set_option maxRecDepth 100000 in
theorem px_k50 : px_cwP (50, 3172) := fun _ => rfl
set_option maxRecDepth 100000 in
theorem px_k51 : px_cwP (51, 3185) := fun _ => rfl
set_option maxRecDepth 100000 in
theorem px_k52 : px_cwP (52, 3189) := fun _ => rfl
set_option maxRecDepth 100000 in
theorem px_k53 : px_cwP (53, 3201) := fun _ => rfl
set_option maxRecDepth 100000 in
theorem px_k54 : px_cwP (54, 3205) := fun _ => rfl
set_option maxRecDepth 100000 in
theorem px_k55 : px_cwP (55, 3217) := fun _ => rfl
set_option maxRecDepth 100000 in
theorem px_k56 : px_cwP (56, 3221) := fun _ => rfl
set_option maxRecDepth 100000 in
theorem px_k57 : px_cwP (57, 3233) := fun _ => rfl
set_option maxRecDepth 100000 in
theorem px_k58 : px_cwP (58, 3238) := fun _ => rfl
set_option maxRecDepth 100000 in
theorem px_k59 : px_cwP (59, 4002) := fun _ => rfl
set_option maxRecDepth 100000 in
theorem px_k60 : px_cwP (60, 4006) := fun _ => rfl
set_option maxRecDepth 100000 in
theorem px_k61 : px_cwP (61, 4010) := fun _ => rfl
set_option maxRecDepth 100000 in
theorem px_k62 : px_cwP (62, 4018) := fun _ => rfl
set_option maxRecDepth 100000 in
theorem px_k63 : px_cwP (63, 1199) := fun _ => rfl
set_option maxRecDepth 100000 in
theorem px_k64 : px_cwP (64, 5198) := fun _ => rfl
set_option maxRecDepth 100000 in
theorem px_k65 : px_cwP (65, 5087) := fun _ => rfl
set_option maxRecDepth 100000 in
theorem px_k66 : px_cwP (66, 5108) := fun _ => rfl
set_option maxRecDepth 100000 in
theorem px_k67 : px_cwP (67, 5156) := fun _ => rfl
set_option maxRecDepth 100000 in
theorem px_k68 : px_cwP (68, 5095) := fun _ => rfl
set_option maxRecDepth 100000 in
theorem px_k69 : px_cwP (69, 5099) := fun _ => rfl
set_option maxRecDepth 100000 in
theorem px_k70 : px_cwP (70, 5116) := fun _ => rfl
set_option maxRecDepth 100000 in
theorem px_k71 : px_cwP (71, 5121) := fun _ => rfl
set_option maxRecDepth 100000 in
theorem px_k72 : px_cwP (72, 5168) := fun _ => rfl
set_option maxRecDepth 100000 in
theorem px_k73 : px_cwP (73, 5164) := fun _ => rfl
set_option maxRecDepth 100000 in
theorem px_k74 : px_cwP (74, 2063) := fun _ => rfl
set_option maxRecDepth 100000 in
theorem px_k75 : px_cwP (75, 4134) := fun _ => rfl
set_option maxRecDepth 100000 in
theorem px_k76 : px_cwP (76, 5181) := fun _ => rfl
set_option maxRecDepth 100000 in
theorem px_k77 : px_cwP (77, 1034) := fun _ => rfl
set_option maxRecDepth 100000 in
theorem px_k78 : px_cwP (78, 5189) := fun _ => rfl
set_option maxRecDepth 100000 in
theorem px_k79 : px_cwP (79, 3006) := fun _ => rfl
set_option maxRecDepth 100000 in
theorem px_k80 : px_cwP (80, 4042) := fun _ => rfl
set_option maxRecDepth 100000 in
theorem px_k81 : px_cwP (81, 4078) := fun _ => rfl
set_option maxRecDepth 100000 in
theorem px_k82 : px_cwP (82, 4070) := fun _ => rfl
set_option maxRecDepth 100000 in
theorem px_k83 : px_cwP (83, 3002) := fun _ => rfl
set_option maxRecDepth 100000 in
theorem px_k84 : px_cwP (84, 4074) := fun _ => rfl
set_option maxRecDepth 100000 in
theorem px_k85 : px_cwP (85, 4066) := fun _ => rfl
set_option maxRecDepth 100000 in
theorem px_k86 : px_cwP (86, 4097) := fun _ => rfl
set_option maxRecDepth 100000 in
theorem px_k87 : px_cwP (87, 4087) := fun _ => rfl
set_option maxRecDepth 100000 in
theorem px_k88 : px_cwP (88, 4101) := fun _ => rfl
set_option maxRecDepth 100000 in
theorem px_k89 : px_cwP (89, 4105) := fun _ => rfl
set_option maxRecDepth 100000 in
theorem px_k90 : px_cwP (90, 4181) := fun _ => rfl
set_option maxRecDepth 100000 in
theorem px_k91 : px_cwP (91, 4109) := fun _ => rfl
set_option maxRecDepth 100000 in
theorem px_k92 : px_cwP (92, 4061) := fun _ => rfl
set_option maxRecDepth 100000 in
theorem px_k93 : px_cwP (93, 4144) := fun _ => rfl
set_option maxRecDepth 100000 in
theorem px_k94 : px_cwP (94, 4156) := fun _ => rfl
set_option maxRecDepth 100000 in
theorem px_k95 : px_cwP (95, 4148) := fun _ => rfl
set_option maxRecDepth 100000 in
theorem px_k96 : px_cwP (96, 4165) := fun _ => rfl
set_option maxRecDepth 100000 in
theorem px_k97 : px_cwP (97, 4169) := fun _ => rfl
set_option maxRecDepth 100000 in
theorem px_k98 : px_cwP (98, 4177) := fun _ => rfl
set_option maxRecDepth 100000 in
theorem px_k99 : px_cwP (99, 4173) := fun _ => rfl
set_option maxRecDepth 100000 in
theorem px_k100 : px_cwP (100, 4192) := fun _ => rfl
set_option maxRecDepth 100000 in
theorem px_k101 : px_cwP (101, 4200) := fun _ => rfl
set_option maxRecDepth 100000 in
theorem px_k102 : px_cwP (102, 5129) := fun _ => rfl
set_option maxRecDepth 100000 in
theorem px_k103 : px_cwP (103, 1026) := fun _ => rfl
set_option maxRecDepth 100000 in
theorem px_k104 : px_cwP (104, 2223) := fun _ => rfl
set_option maxRecDepth 100000 in
theorem px_k105 : px_cwP (105, 2235) := fun _ => rfl
set_option maxRecDepth 100000 in
theorem px_k106 : px_cwP (106, 3011) := fun _ => rfl
set_option maxRecDepth 100000 in
theorem px_k107 : px_cwP (107, 3017) := fun _ => rfl
set_option maxRecDepth 100000 in
theorem px_k108 : px_cwP (108, 3021) := fun _ => rfl
set_option maxRecDepth 100000 in
theorem px_k109 : px_cwP (109, 3025) := fun _ => rfl
set_option maxRecDepth 100000 in
theorem px_k110 : px_cwP (110, 3029) := fun _ => rfl
set_option maxRecDepth 100000 in
theorem px_k111 : px_cwP (111, 3033) := fun _ => rfl
set_option maxRecDepth 100000 in
theorem px_k112 : px_cwP (112, 4026) := fun _ => rfl
set_option maxRecDepth 100000 in
theorem px_k113 : px_cwP (113, 4053) := fun _ => rfl
set_option maxRecDepth 100000 in
theorem px_k114 : px_cwP (114, 4057) := fun _ => rfl
set_option maxRecDepth 100000 in
theorem px_k115 : px_cwP (115, 4152) := fun _ => rfl
set_option maxRecDepth 100000 in
theorem px_k116 : px_cwP (116, 4161) := fun _ => rfl
set_option maxRecDepth 100000 in
theorem px_k117 : px_cwP (117, 4196) := fun _ => rfl
set_option maxRecDepth 100000 in
theorem px_k118 : px_cwP (118, 4208) := fun _ => rfl
set_option maxRecDepth 100000 in
theorem px_k119 : px_cwP (119, 4214) := fun _ => rfl
set_option maxRecDepth 100000 in
theorem px_k120 : px_cwP (120, 4219) := fun _ => rfl
set_option maxRecDepth 100000 in
theorem px_k121 : px_cwP (121, 4223) := fun _ => rfl
set_option maxRecDepth 100000 in
theorem px_k122 : px_cwP (122, 5046) := fun _ => rfl
set_option maxRecDepth 100000 in
theorem px_k123 : px_cwP (123, 5061) := fun _ => rfl
set_option maxRecDepth 100000 in
theorem px_k124 : px_cwP (124, 5069) := fun _ => rfl
set_option maxRecDepth 100000 in
theorem px_k125 : px_cwP (125, 5082) := fun _ => rfl
set_option maxRecDepth 100000 in
theorem px_k126 : px_cwP (126, 5091) := fun _ => rfl
set_option maxRecDepth 100000 in
theorem px_k127 : px_cwP (127, 5104) := fun _ => rfl
set_option maxRecDepth 100000 in
theorem px_k128 : px_cwP (128, 5112) := fun _ => rfl
set_option maxRecDepth 100000 in
theorem px_k129 : px_cwP (129, 5125) := fun _ => rfl
set_option maxRecDepth 100000 in
theorem px_k130 : px_cwP (130, 5133) := fun _ => rfl
set_option maxRecDepth 100000 in
theorem px_k131 : px_cwP (131, 5144) := fun _ => rfl
set_option maxRecDepth 100000 in
theorem px_k132 : px_cwP (132, 5152) := fun _ => rfl
set_option maxRecDepth 100000 in
theorem px_k133 : px_cwP (133, 5160) := fun _ => rfl
set_option maxRecDepth 100000 in
theorem px_k134 : px_cwP (134, 5173) := fun _ => rfl
set_option maxRecDepth 100000 in
theorem px_k135 : px_cwP (135, 5177) := fun _ => rfl
set_option maxRecDepth 100000 in
theorem px_k136 : px_cwP (136, 5185) := fun _ => rfl
set_option maxRecDepth 100000 in
theorem px_k137 : px_cwP (137, 5203) := fun _ => rfl
set_option maxRecDepth 100000 in
theorem px_k138 : px_cwP (138, 5208) := fun _ => rfl
set_option maxRecDepth 100000 in
theorem px_k139 : px_cwP (139, 2227) := fun _ => rfl
set_option maxRecDepth 100000 in
theorem px_k140 : px_cwP (140, 4130) := fun _ => rfl
set_option maxRecDepth 100000 in
theorem px_k141 : px_cwP (141, 2238) := fun _ => rfl
set_option maxRecDepth 100000 in
theorem px_k142 : px_cwP (142, 4124) := fun _ => rfl
set_option maxRecDepth 100000 in
theorem px_k143 : px_cwP (143, 5137) := fun _ => rfl
set_option maxRecDepth 100000 in
theorem px_k144 : px_cwP (144, 5140) := fun _ => rfl
set_option maxRecDepth 100000 in
theorem px_k145 : px_cwP (145, 5213) := fun _ => rfl
set_option maxRecDepth 100000 in
theorem px_k146 : px_cwP (146, 6184) := fun _ => rfl
set_option maxRecDepth 100000 in
theorem px_k147 : px_cwP (147, 7221) := fun _ => rfl
set_option maxRecDepth 100000 in
theorem px_k148 : px_cwP (148, 8120) := fun _ => rfl
set_option maxRecDepth 100000 in
theorem px_k149 : px_cwP (149, 7181) := fun _ => rfl
set_option maxRecDepth 100000 in
theorem px_k150 : px_cwP (150, 7225) := fun _ => rfl
set_option maxRecDepth 100000 in
theorem px_k151 : px_cwP (151, 6172) := fun _ => rfl
set_option maxRecDepth 100000 in
theorem px_k152 : px_cwP (152, 8112) := fun _ => rfl
set_option maxRecDepth 100000 in
theorem px_k153 : px_cwP (153, 8116) := fun _ => rfl
set_option maxRecDepth 100000 in
theorem px_k154 : px_cwP (154, 6176) := fun _ => rfl
set_option maxRecDepth 100000 in
theorem px_k155 : px_cwP (155, 8025) := fun _ => rfl
set_option maxRecDepth 100000 in
theorem px_k156 : px_cwP (156, 8063) := fun _ => rfl
set_option maxRecDepth 100000 in
theorem px_k157 : px_cwP (157, 6201) := fun _ => rfl
set_option maxRecDepth 100000 in
theorem px_k158 : px_cwP (158, 6188) := fun _ => rfl
set_option maxRecDepth 100000 in
theorem px_k159 : px_cwP (159, 7173) := fun _ => rfl
set_option maxRecDepth 100000 in
theorem px_k160 : px_cwP (160, 6180) := fun _ => rfl
set_option maxRecDepth 100000 in
theorem px_k161 : px_cwP (161, 6196) := fun _ => rfl
set_option maxRecDepth 100000 in
theorem px_k162 : px_cwP (162, 6192) := fun _ => rfl
set_option maxRecDepth 100000 in
theorem px_k163 : px_cwP (163, 6209) := fun _ => rfl
set_option maxRecDepth 100000 in
theorem px_k164 : px_cwP (164, 6205) := fun _ => rfl
set_option maxRecDepth 100000 in
theorem px_k165 : px_cwP (165, 6213) := fun _ => rfl
set_option maxRecDepth 100000 in
theorem px_k166 : px_cwP (166, 6229) := fun _ => rfl
set_option maxRecDepth 100000 in
theorem px_k167 : px_cwP (167, 6233) := fun _ => rfl
set_option maxRecDepth 100000 in
theorem px_k168 : px_cwP (168, 7001) := fun _ => rfl
set_option maxRecDepth 100000 in
theorem px_k169 : px_cwP (169, 7005) := fun _ => rfl
set_option maxRecDepth 100000 in
theorem px_k170 : px_cwP (170, 6237) := fun _ => rfl
set_option maxRecDepth 100000 in
theorem px_k171 : px_cwP (171, 6225) := fun _ => rfl
set_option maxRecDepth 100000 in
theorem px_k172 : px_cwP (172, 7017) := fun _ => rfl
set_option maxRecDepth 100000 in
theorem px_k173 : px_cwP (173, 7013) := fun _ => rfl
set_option maxRecDepth 100000 in
theorem px_k174 : px_cwP (174, 7041) := fun _ => rfl
set_option maxRecDepth 100000 in
theorem px_k175 : px_cwP (175, 7117) := fun _ => rfl
set_option maxRecDepth 100000 in
theorem px_k176 : px_cwP (176, 7113) := fun _ => rfl
set_option maxRecDepth 100000 in
theorem px_k177 : px_cwP (177, 7109) := fun _ => rfl
set_option maxRecDepth 100000 in
theorem px_k178 : px_cwP (178, 7105) := fun _ => rfl
set_option maxRecDepth 100000 in
theorem px_k179 : px_cwP (179, 7101) := fun _ => rfl
set_option maxRecDepth 100000 in
theorem px_k180 : px_cwP (180, 7129) := fun _ => rfl
set_option maxRecDepth 100000 in
theorem px_k181 : px_cwP (181, 7125) := fun _ => rfl
set_option maxRecDepth 100000 in
theorem px_k182 : px_cwP (182, 7133) := fun _ => rfl
set_option maxRecDepth 100000 in
theorem px_k183 : px_cwP (183, 7121) := fun _ => rfl
set_option maxRecDepth 100000 in
theorem px_k184 : px_cwP (184, 7097) := fun _ => rfl
set_option maxRecDepth 100000 in
theorem px_k185 : px_cwP (185, 7093) := fun _ => rfl
set_option maxRecDepth 100000 in
theorem px_k186 : px_cwP (186, 7137) := fun _ => rfl
set_option maxRecDepth 100000 in
theorem px_k187 : px_cwP (187, 7033) := fun _ => rfl
set_option maxRecDepth 100000 in
theorem px_k188 : px_cwP (188, 7029) := fun _ => rfl
set_option maxRecDepth 100000 in
theorem px_k189 : px_cwP (189, 7037) := fun _ => rfl
set_option maxRecDepth 100000 in
theorem px_k190 : px_cwP (190, 7025) := fun _ => rfl
set_option maxRecDepth 100000 in
theorem px_k191 : px_cwP (191, 7021) := fun _ => rfl
set_option maxRecDepth 100000 in
theorem px_k192 : px_cwP (192, 7045) := fun _ => rfl
set_option maxRecDepth 100000 in
theorem px_k193 : px_cwP (193, 7009) := fun _ => rfl
set_option maxRecDepth 100000 in
theorem px_k194 : px_cwP (194, 7057) := fun _ => rfl
set_option maxRecDepth 100000 in
theorem px_k195 : px_cwP (195, 7053) := fun _ => rfl
set_option maxRecDepth 100000 in
theorem px_k196 : px_cwP (196, 7049) := fun _ => rfl
set_option maxRecDepth 100000 in
theorem px_k197 : px_cwP (197, 7077) := fun _ => rfl
set_option maxRecDepth 100000 in
theorem px_k198 : px_cwP (198, 7069) := fun _ => rfl
set_option maxRecDepth 100000 in
theorem px_k199 : px_cwP (199, 7073) := fun _ => rfl
set_option maxRecDepth 100000 in
theorem px_k200 : px_cwP (200, 7081) := fun _ => rfl
set_option maxRecDepth 100000 in
theorem px_k201 : px_cwP (201, 7085) := fun _ => rfl
set_option maxRecDepth 100000 in
theorem px_k202 : px_cwP (202, 7065) := fun _ => rfl
set_option maxRecDepth 100000 in
theorem px_k203 : px_cwP (203, 7089) := fun _ => rfl
set_option maxRecDepth 100000 in
theorem px_k204 : px_cwP (204, 7061) := fun _ => rfl
set_option maxRecDepth 100000 in
theorem px_k205 : px_cwP (205, 6221) := fun _ => rfl
set_option maxRecDepth 100000 in
theorem px_k206 : px_cwP (206, 7141) := fun _ => rfl
set_option maxRecDepth 100000 in
theorem px_k207 : px_cwP (207, 6217) := fun _ => rfl
set_option maxRecDepth 100000 in
theorem px_k208 : px_cwP (208, 7145) := fun _ => rfl
set_option maxRecDepth 100000 in
theorem px_k209 : px_cwP (209, 7217) := fun _ => rfl
set_option maxRecDepth 100000 in
theorem px_k210 : px_cwP (210, 7213) := fun _ => rfl
set_option maxRecDepth 100000 in
theorem px_k211 : px_cwP (211, 7209) := fun _ => rfl
set_option maxRecDepth 100000 in
theorem px_k212 : px_cwP (212, 7193) := fun _ => rfl
set_option maxRecDepth 100000 in
theorem px_k213 : px_cwP (213, 7197) := fun _ => rfl
set_option maxRecDepth 100000 in
theorem px_k214 : px_cwP (214, 8021) := fun _ => rfl
set_option maxRecDepth 100000 in
theorem px_k215 : px_cwP (215, 7205) := fun _ => rfl
set_option maxRecDepth 100000 in
theorem px_k216 : px_cwP (216, 7201) := fun _ => rfl
set_option maxRecDepth 100000 in
theorem px_k217 : px_cwP (217, 7189) := fun _ => rfl
set_option maxRecDepth 100000 in
theorem px_k218 : px_cwP (218, 7157) := fun _ => rfl
set_option maxRecDepth 100000 in
theorem px_k219 : px_cwP (219, 7153) := fun _ => rfl
set_option maxRecDepth 100000 in
theorem px_k220 : px_cwP (220, 8084) := fun _ => rfl
set_option maxRecDepth 100000 in
theorem px_k221 : px_cwP (221, 7149) := fun _ => rfl
set_option maxRecDepth 100000 in
theorem px_k222 : px_cwP (222, 7177) := fun _ => rfl
set_option maxRecDepth 100000 in
theorem px_k223 : px_cwP (223, 7185) := fun _ => rfl
set_option maxRecDepth 100000 in
theorem px_k224 : px_cwP (224, 7169) := fun _ => rfl
set_option maxRecDepth 100000 in
theorem px_k225 : px_cwP (225, 7233) := fun _ => rfl
set_option maxRecDepth 100000 in
theorem px_k226 : px_cwP (226, 7165) := fun _ => rfl
set_option maxRecDepth 100000 in
theorem px_k227 : px_cwP (227, 7229) := fun _ => rfl
set_option maxRecDepth 100000 in
theorem px_k228 : px_cwP (228, 7161) := fun _ => rfl
set_option maxRecDepth 100000 in
theorem px_k229 : px_cwP (229, 8001) := fun _ => rfl
set_option maxRecDepth 100000 in
theorem px_k230 : px_cwP (230, 7237) := fun _ => rfl
set_option maxRecDepth 100000 in
theorem px_k231 : px_cwP (231, 8013) := fun _ => rfl
set_option maxRecDepth 100000 in
theorem px_k232 : px_cwP (232, 8017) := fun _ => rfl
set_option maxRecDepth 100000 in
theorem px_k233 : px_cwP (233, 8031) := fun _ => rfl
set_option maxRecDepth 100000 in
theorem px_k234 : px_cwP (234, 8009) := fun _ => rfl
set_option maxRecDepth 100000 in
theorem px_k235 : px_cwP (235, 8005) := fun _ => rfl
set_option maxRecDepth 100000 in
theorem px_k236 : px_cwP (236, 8043) := fun _ => rfl
set_option maxRecDepth 100000 in
theorem px_k237 : px_cwP (237, 8039) := fun _ => rfl
set_option maxRecDepth 100000 in
theorem px_k238 : px_cwP (238, 8035) := fun _ => rfl
set_option maxRecDepth 100000 in
theorem px_k239 : px_cwP (239, 8047) := fun _ => rfl
set_option maxRecDepth 100000 in
theorem px_k240 : px_cwP (240, 8051) := fun _ => rfl
set_option maxRecDepth 100000 in
theorem px_k241 : px_cwP (241, 8071) := fun _ => rfl
set_option maxRecDepth 100000 in
theorem px_k242 : px_cwP (242, 8092) := fun _ => rfl
set_option maxRecDepth 100000 in
theorem px_k243 : px_cwP (243, 8080) := fun _ => rfl
set_option maxRecDepth 100000 in
theorem px_k244 : px_cwP (244, 8088) := fun _ => rfl
set_option maxRecDepth 100000 in
theorem px_k245 : px_cwP (245, 8076) := fun _ => rfl
set_option maxRecDepth 100000 in
theorem px_k246 : px_cwP (246, 8059) := fun _ => rfl
set_option maxRecDepth 100000 in
theorem px_k247 : px_cwP (247, 8067) := fun _ => rfl
set_option maxRecDepth 100000 in
theorem px_k248 : px_cwP (248, 8096) := fun _ => rfl
set_option maxRecDepth 100000 in
theorem px_k249 : px_cwP (249, 8100) := fun _ => rfl
set_option maxRecDepth 100000 in
theorem px_k250 : px_cwP (250, 8055) := fun _ => rfl
set_option maxRecDepth 100000 in
theorem px_k251 : px_cwP (251, 8108) := fun _ => rfl
set_option maxRecDepth 100000 in
theorem px_k252 : px_cwP (252, 8104) := fun _ => rfl
set_option maxRecDepth 100000 in
theorem px_k253 : px_cwP (253, 8132) := fun _ => rfl
set_option maxRecDepth 100000 in
theorem px_k254 : px_cwP (254, 8128) := fun _ => rfl
set_option maxRecDepth 100000 in
theorem px_k255 : px_cwP (255, 8136) := fun _ => rfl
set_option maxRecDepth 100000 in
theorem px_k256 : px_cwP (256, 8124) := fun _ => rfl
set_option maxRecDepth 100000 in
theorem px_k257 : px_cwP (257, 8140) := fun _ => rfl
set_option maxRecDepth 100000 in
theorem px_k258 : px_cwP (258, 8144) := fun _ => rfl
set_option maxRecDepth 100000 in
theorem px_k259 : px_cwP (259, 8148) := fun _ => rfl
set_option maxRecDepth 100000 in
theorem px_k260 : px_cwP (260, 8160) := fun _ => rfl
set_option maxRecDepth 100000 in
theorem px_k261 : px_cwP (261, 8156) := fun _ => rfl
set_option maxRecDepth 100000 in
theorem px_k262 : px_cwP (262, 8152) := fun _ => rfl
set_option maxRecDepth 100000 in
theorem px_k263 : px_cwP (263, 8164) := fun _ => rfl
set_option maxRecDepth 100000 in
theorem px_k264 : px_cwP (264, 8172) := fun _ => rfl
set_option maxRecDepth 100000 in
theorem px_k265 : px_cwP (265, 8168) := fun _ => rfl
set_option maxRecDepth 100000 in
theorem px_k266 : px_cwP (266, 8176) := fun _ => rfl
set_option maxRecDepth 100000 in
theorem px_k267 : px_cwP (267, 8189) := fun _ => rfl
set_option maxRecDepth 100000 in
theorem px_k268 : px_cwP (268, 8185) := fun _ => rfl
set_option maxRecDepth 100000 in
theorem px_k269 : px_cwP (269, 8180) := fun _ => rfl
set_option maxRecDepth 100000 in
theorem px_k270 : px_cwP (270, 8193) := fun _ => rfl
set_option maxRecDepth 100000 in
theorem px_k271 : px_cwP (271, 8197) := fun _ => rfl
set_option maxRecDepth 100000 in
theorem px_k272 : px_cwP (272, 8205) := fun _ => rfl
set_option maxRecDepth 100000 in
theorem px_k273 : px_cwP (273, 8201) := fun _ => rfl
set_option maxRecDepth 100000 in
theorem px_k274 : px_cwP (274, 8213) := fun _ => rfl
set_option maxRecDepth 100000 in
theorem px_k275 : px_cwP (275, 8221) := fun _ => rfl
set_option maxRecDepth 100000 in
theorem px_k276 : px_cwP (276, 8217) := fun _ => rfl
set_option maxRecDepth 100000 in
theorem px_k277 : px_cwP (277, 8209) := fun _ => rfl
set_option maxRecDepth 100000 in
theorem px_k278 : px_cwP (278, 8225) := fun _ => rfl
theorem px_k279 : px_cwP (279, 0) := fun h => absurd rfl h
set_option maxRecDepth 100000 in
theorem px_k280 : px_cwP (280, 4090) := fun _ => rfl
set_option maxRecDepth 100000 in
theorem px_k281 : px_cwP (281, 5148) := fun _ => rfl
set_option maxRecDepth 100000 in
theorem px_k282 : px_cwP (282, 3119) := fun _ => rfl
set_option maxRecDepth 100000 in
theorem px_k283 : px_cwP (283, 3122) := fun _ => rfl
set_option maxRecDepth 100000 in
theorem px_k284 : px_cwP (284, 1044) := fun _ => rfl
set_option maxRecDepth 100000 in
theorem px_k285 : px_cwP (285, 4234) := fun _ => rfl
set_option maxRecDepth 100000 in
theorem px_k286 : px_cwP (286, 4237) := fun _ => rfl
theorem px_kc0 : ∀ q ∈ ([(0, 1040), (1, 4138), (2, 4186), (3, 1148), (4, 4037), (5, 3229), (6, 3225), (7, 4082), (8, 5020), (9, 5065), (10, 5073), (11, 5077), (12, 1114), (13, 4030), (14, 3193), (15, 3213)] : List (Nat × Nat)), px_cwP q := List.forall_mem_cons.mpr ⟨px_k0, List.forall_mem_cons.mpr ⟨px_k1, List.forall_mem_cons.mpr ⟨px_k2, List.forall_mem_cons.mpr ⟨px_k3, List.forall_mem_cons.mpr ⟨px_k4, List.forall_mem_cons.mpr ⟨px_k5, List.forall_mem_cons.mpr ⟨px_k6, List.forall_mem_cons.mpr ⟨px_k7, List.forall_mem_cons.mpr ⟨px_k8, List.forall_mem_cons.mpr ⟨px_k9, List.forall_mem_cons.mpr ⟨px_k10, List.forall_mem_cons.mpr ⟨px_k11, List.forall_mem_cons.mpr ⟨px_k12, List.forall_mem_cons.mpr ⟨px_k13, List.forall_mem_cons.mpr ⟨px_k14, List.forall_mem_cons.mpr ⟨px_k15, fun _ h => absurd h List.not_mem_nil⟩⟩⟩⟩⟩⟩⟩⟩⟩⟩⟩⟩⟩⟩⟩⟩
theorem px_kc1 : ∀ q ∈ ([(16, 5001), (17, 4113), (18, 4117), (19, 4121), (20, 2158), (21, 2231), (22, 5034), (23, 5038), (24, 4227), (25, 5005), (26, 5010), (27, 5015), (28, 5025), (29, 5029), (30, 5042), (31, 2145)] : List (Nat × Nat)), px_cwP q := List.forall_mem_cons.mpr ⟨px_k16, List.forall_mem_cons.mpr ⟨px_k17, List.forall_mem_cons.mpr ⟨px_k18, List.forall_mem_cons.mpr ⟨px_k19, List.forall_mem_cons.mpr ⟨px_k20, List.forall_mem_cons.mpr ⟨px_k21, List.forall_mem_cons.mpr ⟨px_k22, List.forall_mem_cons.mpr ⟨px_k23, List.forall_mem_cons.mpr ⟨px_k24, List.forall_mem_cons.mpr ⟨px_k25, List.forall_mem_cons.mpr ⟨px_k26, List.forall_mem_cons.mpr ⟨px_k27, List.forall_mem_cons.mpr ⟨px_k28, List.forall_mem_cons.mpr ⟨px_k29, List.forall_mem_cons.mpr ⟨px_k30, List.forall_mem_cons.mpr ⟨px_k31, fun _ h => absurd h List.not_mem_nil⟩⟩⟩⟩⟩⟩⟩⟩⟩⟩⟩⟩⟩⟩⟩⟩
theorem px_kc2 : ∀ q ∈ ([(32, 5050), (33, 5057), (34, 1175), (35, 4047), (36, 4022), (37, 4014), (38, 2083), (39, 3037), (40, 3100), (41, 3041), (42, 3044), (43, 3047), (44, 3177), (45, 3181), (46, 3209), (47, 3197)] : List (Nat × Nat)), px_cwP q := List.forall_mem_cons.mpr ⟨px_k32, List.forall_mem_cons.mpr ⟨px_k33, List.forall_mem_cons.mpr ⟨px_k34, List.forall_mem_cons.mpr ⟨px_k35, List.forall_mem_cons.mpr ⟨px_k36, List.forall_mem_cons.mpr ⟨px_k37, List.forall_mem_cons.mpr ⟨px_k38, List.forall_mem_cons.mpr ⟨px_k39, List.forall_mem_cons.mpr ⟨px_k40, List.forall_mem_cons.mpr ⟨px_k41, List.forall_mem_cons.mpr ⟨px_k42, List.forall_mem_cons.mpr ⟨px_k43, List.forall_mem_cons.mpr ⟨px_k44, List.forall_mem_cons.mpr ⟨px_k45, List.forall_mem_cons.mpr ⟨px_k46, List.forall_mem_cons.mpr ⟨px_k47, fun _ h => absurd h List.not_mem_nil⟩⟩⟩⟩⟩⟩⟩⟩⟩⟩⟩⟩⟩⟩⟩⟩
theorem px_kc3 : ∀ q ∈ ([(48, 3168), (49, 3164), (50, 3172), (51, 3185), (52, 3189), (53, 3201), (54, 3205), (55, 3217), (56, 3221), (57, 3233), (58, 3238), (59, 4002), (60, 4006), (61, 4010), (62, 4018), (63, 1199)] : List (Nat × Nat)), px_cwP q := List.forall_mem_cons.mpr ⟨px_k48, List.forall_mem_cons.mpr ⟨px_k49, List.forall_mem_cons.mpr ⟨px_k50, List.forall_mem_cons.mpr ⟨px_k51, List.forall_mem_cons.mpr ⟨px_k52, List.forall_mem_cons.mpr ⟨px_k53, List.forall_mem_cons.mpr ⟨px_k54, List.forall_mem_cons.mpr ⟨px_k55, List.forall_mem_cons.mpr ⟨px_k56, List.forall_mem_cons.mpr ⟨px_k57, List.forall_mem_cons.mpr ⟨px_k58, List.forall_mem_cons.mpr ⟨px_k59, List.forall_mem_cons.mpr ⟨px_k60, List.forall_mem_cons.mpr ⟨px_k61, List.forall_mem_cons.mpr ⟨px_k62, List.forall_mem_cons.mpr ⟨px_k63, fun _ h => absurd h List.not_mem_nil⟩⟩⟩⟩⟩⟩⟩⟩⟩⟩⟩⟩⟩⟩⟩⟩
theorem px_kc4 : ∀ q ∈ ([(64, 5198), (65, 5087), (66, 5108), (67, 5156), (68, 5095), (69, 5099), (70, 5116), (71, 5121), (72, 5168), (73, 5164), (74, 2063), (75, 4134), (76, 5181), (77, 1034), (78, 5189), (79, 3006)] : List (Nat × Nat)), px_cwP q := List.forall_mem_cons.mpr ⟨px_k64, List.forall_mem_cons.mpr ⟨px_k65, List.forall_mem_cons.mpr ⟨px_k66, List.forall_mem_cons.mpr ⟨px_k67, List.forall_mem_cons.mpr ⟨px_k68, List.forall_mem_cons.mpr ⟨px_k69, List.forall_mem_cons.mpr ⟨px_k70, List.forall_mem_cons.mpr ⟨px_k71, List.forall_mem_cons.mpr ⟨px_k72, List.forall_mem_cons.mpr ⟨px_k73, List.forall_mem_cons.mpr ⟨px_k74, List.forall_mem_cons.mpr ⟨px_k75, List.forall_mem_cons.mpr ⟨px_k76, List.forall_mem_cons.mpr ⟨px_k77, List.forall_mem_cons.mpr ⟨px_k78, List.forall_mem_cons.mpr ⟨px_k79, fun _ h => absurd h List.not_mem_nil⟩⟩⟩⟩⟩⟩⟩⟩⟩⟩⟩⟩⟩⟩⟩⟩
theorem px_kc5 : ∀ q ∈ ([(80, 4042), (81, 4078), (82, 4070), (83, 3002), (84, 4074), (85, 4066), (86, 4097), (87, 4087), (88, 4101), (89, 4105), (90, 4181), (91, 4109), (92, 4061), (93, 4144), (94, 4156), (95, 4148)] : List (Nat × Nat)), px_cwP q := List.forall_mem_cons.mpr ⟨px_k80, List.forall_mem_cons.mpr ⟨px_k81, List.forall_mem_cons.mpr ⟨px_k82, List.forall_mem_cons.mpr ⟨px_k83, List.forall_mem_cons.mpr ⟨px_k84, List.forall_mem_cons.mpr ⟨px_k85, List.forall_mem_cons.mpr ⟨px_k86, List.forall_mem_cons.mpr ⟨px_k87, List.forall_mem_cons.mpr ⟨px_k88, List.forall_mem_cons.mpr ⟨px_k89, List.forall_mem_cons.mpr ⟨px_k90, List.forall_mem_cons.mpr ⟨px_k91, List.forall_mem_cons.mpr ⟨px_k92, List.forall_mem_cons.mpr ⟨px_k93, List.forall_mem_cons.mpr ⟨px_k94, List.forall_mem_cons.mpr ⟨px_k95, fun _ h => absurd h List.not_mem_nil⟩⟩⟩⟩⟩⟩⟩⟩⟩⟩⟩⟩⟩⟩⟩⟩
theorem px_kc6 : ∀ q ∈ ([(96, 4165), (97, 4169), (98, 4177), (99, 4173), (100, 4192), (101, 4200), (102, 5129), (103, 1026), (104, 2223), (105, 2235), (106, 3011), (107, 3017), (108, 3021), (109, 3025), (110, 3029), (111, 3033)] : List (Nat × Nat)), px_cwP q := List.forall_mem_cons.mpr ⟨px_k96, List.forall_mem_cons.mpr ⟨px_k97, List.forall_mem_cons.mpr ⟨px_k98, List.forall_mem_cons.mpr ⟨px_k99, List.forall_mem_cons.mpr ⟨px_k100, List.forall_mem_cons.mpr ⟨px_k101, List.forall_mem_cons.mpr ⟨px_k102, List.forall_mem_cons.mpr ⟨px_k103, List.forall_mem_cons.mpr ⟨px_k104, List.forall_mem_cons.mpr ⟨px_k105, List.forall_mem_cons.mpr ⟨px_k106, List.forall_mem_cons.mpr ⟨px_k107, List.forall_mem_cons.mpr ⟨px_k108, List.forall_mem_cons.mpr ⟨px_k109, List.forall_mem_cons.mpr ⟨px_k110, List.forall_mem_cons.mpr ⟨px_k111, fun _ h => absurd h List.not_mem_nil⟩⟩⟩⟩⟩⟩⟩⟩⟩⟩⟩⟩⟩⟩⟩⟩
theorem px_kc7 : ∀ q ∈ ([(112, 4026), (113, 4053), (114, 4057), (115, 4152), (116, 4161), (117, 4196), (118, 4208), (119, 4214), (120, 4219), (121, 4223), (122, 5046), (123, 5061), (124, 5069), (125, 5082), (126, 5091), (127, 5104)] : List (Nat × Nat)), px_cwP q := List.forall_mem_cons.mpr ⟨px_k112, List.forall_mem_cons.mpr ⟨px_k113, List.forall_mem_cons.mpr ⟨px_k114, List.forall_mem_cons.mpr ⟨px_k115, List.forall_mem_cons.mpr ⟨px_k116, List.forall_mem_cons.mpr ⟨px_k117, List.forall_mem_cons.mpr ⟨px_k118, List.forall_mem_cons.mpr ⟨px_k119, List.forall_mem_cons.mpr ⟨px_k120, List.forall_mem_cons.mpr ⟨px_k121, List.forall_mem_cons.mpr ⟨px_k122, List.forall_mem_cons.mpr ⟨px_k123, List.forall_mem_cons.mpr ⟨px_k124, List.forall_mem_cons.mpr ⟨px_k125, List.forall_mem_cons.mpr ⟨px_k126, List.forall_mem_cons.mpr ⟨px_k127, fun _ h => absurd h List.not_mem_nil⟩⟩⟩⟩⟩⟩⟩⟩⟩⟩⟩⟩⟩⟩⟩⟩
theorem px_kc8 : ∀ q ∈ ([(128, 5112), (129, 5125), (130, 5133), (131, 5144), (132, 5152), (133, 5160), (134, 5173), (135, 5177), (136, 5185), (137, 5203), (138, 5208), (139, 2227), (140, 4130), (141, 2238), (142, 4124), (143, 5137)] : List (Nat × Nat)), px_cwP q := List.forall_mem_cons.mpr ⟨px_k128, List.forall_mem_cons.mpr ⟨px_k129, List.forall_mem_cons.mpr ⟨px_k130, List.forall_mem_cons.mpr ⟨px_k131, List.forall_mem_cons.mpr ⟨px_k132, List.forall_mem_cons.mpr ⟨px_k133, List.forall_mem_cons.mpr ⟨px_k134, List.forall_mem_cons.mpr ⟨px_k135, List.forall_mem_cons.mpr ⟨px_k136, List.forall_mem_cons.mpr ⟨px_k137, List.forall_mem_cons.mpr ⟨px_k138, List.forall_mem_cons.mpr ⟨px_k139, List.forall_mem_cons.mpr ⟨px_k140, List.forall_mem_cons.mpr ⟨px_k141, List.forall_mem_cons.mpr ⟨px_k142, List.forall_mem_cons.mpr ⟨px_k143, fun _ h => absurd h List.not_mem_nil⟩⟩⟩⟩⟩⟩⟩⟩⟩⟩⟩⟩⟩⟩⟩⟩
theorem px_kc9 : ∀ q ∈ ([(144, 5140), (145, 5213), (146, 6184), (147, 7221), (148, 8120), (149, 7181), (150, 7225), (151, 6172), (152, 8112), (153, 8116), (154, 6176), (155, 8025), (156, 8063), (157, 6201), (158, 6188), (159, 7173)] : List (Nat × Nat)), px_cwP q := List.forall_mem_cons.mpr ⟨px_k144, List.forall_mem_cons.mpr ⟨px_k145, List.forall_mem_cons.mpr ⟨px_k146, List.forall_mem_cons.mpr ⟨px_k147, List.forall_mem_cons.mpr ⟨px_k148, List.forall_mem_cons.mpr ⟨px_k149, List.forall_mem_cons.mpr ⟨px_k150, List.forall_mem_cons.mpr ⟨px_k151, List.forall_mem_cons.mpr ⟨px_k152, List.forall_mem_cons.mpr ⟨px_k153, List.forall_mem_cons.mpr ⟨px_k154, List.forall_mem_cons.mpr ⟨px_k155, List.forall_mem_cons.mpr ⟨px_k156, List.forall_mem_cons.mpr ⟨px_k157, List.forall_mem_cons.mpr ⟨px_k158, List.forall_mem_cons.mpr ⟨px_k159, fun _ h => absurd h List.not_mem_nil⟩⟩⟩⟩⟩⟩⟩⟩⟩⟩⟩⟩⟩⟩⟩⟩
theorem px_kc10 : ∀ q ∈ ([(160, 6180), (161, 6196), (162, 6192), (163, 6209), (164, 6205), (165, 6213), (166, 6229), (167, 6233), (168, 7001), (169, 7005), (170, 6237), (171, 6225), (172, 7017), (173, 7013), (174, 7041), (175, 7117)] : List (Nat × Nat)), px_cwP q := List.forall_mem_cons.mpr ⟨px_k160, List.forall_mem_cons.mpr ⟨px_k161, List.forall_mem_cons.mpr ⟨px_k162, List.forall_mem_cons.mpr ⟨px_k163, List.forall_mem_cons.mpr ⟨px_k164, List.forall_mem_cons.mpr ⟨px_k165, List.forall_mem_cons.mpr ⟨px_k166, List.forall_mem_cons.mpr ⟨px_k167, List.forall_mem_cons.mpr ⟨px_k168, List.forall_mem_cons.mpr ⟨px_k169, List.forall_mem_cons.mpr ⟨px_k170, List.forall_mem_cons.mpr ⟨px_k171, List.forall_mem_cons.mpr ⟨px_k172, List.forall_mem_cons.mpr ⟨px_k173, List.forall_mem_cons.mpr ⟨px_k174, List.forall_mem_cons.mpr ⟨px_k175, fun _ h => absurd h List.not_mem_nil⟩⟩⟩⟩⟩⟩⟩⟩⟩⟩⟩⟩⟩⟩⟩⟩
theorem px_kc11 : ∀ q ∈ ([(176, 7113), (177, 7109), (178, 7105), (179, 7101), (180, 7129), (181, 7125), (182, 7133), (183, 7121), (184, 7097), (185, 7093), (186, 7137), (187, 7033), (188, 7029), (189, 7037), (190, 7025), (191, 7021)] : List (Nat × Nat)), px_cwP q := List.forall_mem_cons.mpr ⟨px_k176, List.forall_mem_cons.mpr ⟨px_k177, List.forall_mem_cons.mpr ⟨px_k178, List.forall_mem_cons.mpr ⟨px_k179, List.forall_mem_cons.mpr ⟨px_k180, List.forall_mem_cons.mpr ⟨px_k181, List.forall_mem_cons.mpr ⟨px_k182, List.forall_mem_cons.mpr ⟨px_k183, List.forall_mem_cons.mpr ⟨px_k184, List.forall_mem_cons.mpr ⟨px_k185, List.forall_mem_cons.mpr ⟨px_k186, List.forall_mem_cons.mpr ⟨px_k187, List.forall_mem_cons.mpr ⟨px_k188, List.forall_mem_cons.mpr ⟨px_k189, List.forall_mem_cons.mpr ⟨px_k190, List.forall_mem_cons.mpr ⟨px_k191, fun _ h => absurd h List.not_mem_nil⟩⟩⟩⟩⟩⟩⟩⟩⟩⟩⟩⟩⟩⟩⟩⟩
theorem px_kc12 : ∀ q ∈ ([(192, 7045), (193, 7009), (194, 7057), (195, 7053), (196, 7049), (197, 7077), (198, 7069), (199, 7073), (200, 7081), (201, 7085), (202, 7065), (203, 7089), (204, 7061), (205, 6221), (206, 7141), (207, 6217)] : List (Nat × Nat)), px_cwP q := List.forall_mem_cons.mpr ⟨px_k192, List.forall_mem_cons.mpr ⟨px_k193, List.forall_mem_cons.mpr ⟨px_k194, List.forall_mem_cons.mpr ⟨px_k195, List.forall_mem_cons.mpr ⟨px_k196, List.forall_mem_cons.mpr ⟨px_k197, List.forall_mem_cons.mpr ⟨px_k198, List.forall_mem_cons.mpr ⟨px_k199, List.forall_mem_cons.mpr ⟨px_k200, List.forall_mem_cons.mpr ⟨px_k201, List.forall_mem_cons.mpr ⟨px_k202, List.forall_mem_cons.mpr ⟨px_k203, List.forall_mem_cons.mpr ⟨px_k204, List.forall_mem_cons.mpr ⟨px_k205, List.forall_mem_cons.mpr ⟨px_k206, List.forall_mem_cons.mpr ⟨px_k207, fun _ h => absurd h List.not_mem_nil⟩⟩⟩⟩⟩⟩⟩⟩⟩⟩⟩⟩⟩⟩⟩⟩
theorem px_kc13 : ∀ q ∈ ([(208, 7145), (209, 7217), (210, 7213), (211, 7209), (212, 7193), (213, 7197), (214, 8021), (215, 7205), (216, 7201), (217, 7189), (218, 7157), (219, 7153), (220, 8084), (221, 7149), (222, 7177), (223, 7185)] : List (Nat × Nat)), px_cwP q := List.forall_mem_cons.mpr ⟨px_k208, List.forall_mem_cons.mpr ⟨px_k209, List.forall_mem_cons.mpr ⟨px_k210, List.forall_mem_cons.mpr ⟨px_k211, List.forall_mem_cons.mpr ⟨px_k212, List.forall_mem_cons.mpr ⟨px_k213, List.forall_mem_cons.mpr ⟨px_k214, List.forall_mem_cons.mpr ⟨px_k215, List.forall_mem_cons.mpr ⟨px_k216, List.forall_mem_cons.mpr ⟨px_k217, List.forall_mem_cons.mpr ⟨px_k218, List.forall_mem_cons.mpr ⟨px_k219, List.forall_mem_cons.mpr ⟨px_k220, List.forall_mem_cons.mpr ⟨px_k221, List.forall_mem_cons.mpr ⟨px_k222, List.forall_mem_cons.mpr ⟨px_k223, fun _ h => absurd h List.not_mem_nil⟩⟩⟩⟩⟩⟩⟩⟩⟩⟩⟩⟩⟩⟩⟩⟩
theorem px_kc14 : ∀ q ∈ ([(224, 7169), (225, 7233), (226, 7165), (227, 7229), (228, 7161), (229, 8001), (230, 7237), (231, 8013), (232, 8017), (233, 8031), (234, 8009), (235, 8005), (236, 8043), (237, 8039), (238, 8035), (239, 8047)] : List (Nat × Nat)), px_cwP q := List.forall_mem_cons.mpr ⟨px_k224, List.forall_mem_cons.mpr ⟨px_k225, List.forall_mem_cons.mpr ⟨px_k226, List.forall_mem_cons.mpr ⟨px_k227, List.forall_mem_cons.mpr ⟨px_k228, List.forall_mem_cons.mpr ⟨px_k229, List.forall_mem_cons.mpr ⟨px_k230, List.forall_mem_cons.mpr ⟨px_k231, List.forall_mem_cons.mpr ⟨px_k232, List.forall_mem_cons.mpr ⟨px_k233, List.forall_mem_cons.mpr ⟨px_k234, List.forall_mem_cons.mpr ⟨px_k235, List.forall_mem_cons.mpr ⟨px_k236, List.forall_mem_cons.mpr ⟨px_k237, List.forall_mem_cons.mpr ⟨px_k238, List.forall_mem_cons.mpr ⟨px_k239, fun _ h => absurd h List.not_mem_nil⟩⟩⟩⟩⟩⟩⟩⟩⟩⟩⟩⟩⟩⟩⟩⟩
theorem px_kc15 : ∀ q ∈ ([(240, 8051), (241, 8071), (242, 8092), (243, 8080), (244, 8088), (245, 8076), (246, 8059), (247, 8067), (248, 8096), (249, 8100), (250, 8055), (251, 8108), (252, 8104), (253, 8132), (254, 8128), (255, 8136)] : List (Nat × Nat)), px_cwP q := List.forall_mem_cons.mpr ⟨px_k240, List.forall_mem_cons.mpr ⟨px_k241, List.forall_mem_cons.mpr ⟨px_k242, List.forall_mem_cons.mpr ⟨px_k243, List.forall_mem_cons.mpr ⟨px_k244, List.forall_mem_cons.mpr ⟨px_k245, List.forall_mem_cons.mpr ⟨px_k246, List.forall_mem_cons.mpr ⟨px_k247, List.forall_mem_cons.mpr ⟨px_k248, List.forall_mem_cons.mpr ⟨px_k249, List.forall_mem_cons.mpr ⟨px_k250, List.forall_mem_cons.mpr ⟨px_k251, List.forall_mem_cons.mpr ⟨px_k252, List.forall_mem_cons.mpr ⟨px_k253, List.forall_mem_cons.mpr ⟨px_k254, List.forall_mem_cons.mpr ⟨px_k255, fun _ h => absurd h List.not_mem_nil⟩⟩⟩⟩⟩⟩⟩⟩⟩⟩⟩⟩⟩⟩⟩⟩
theorem px_kc16 : ∀ q ∈ ([(256, 8124), (257, 8140), (258, 8144), (259, 8148), (260, 8160), (261, 8156), (262, 8152), (263, 8164), (264, 8172), (265, 8168), (266, 8176), (267, 8189), (268, 8185), (269, 8180), (270, 8193), (271, 8197)] : List (Nat × Nat)), px_cwP q := List.forall_mem_cons.mpr ⟨px_k256, List.forall_mem_cons.mpr ⟨px_k257, List.forall_mem_cons.mpr ⟨px_k258, List.forall_mem_cons.mpr ⟨px_k259, List.forall_mem_cons.mpr ⟨px_k260, List.forall_mem_cons.mpr ⟨px_k261, List.forall_mem_cons.mpr ⟨px_k262, List.forall_mem_cons.mpr ⟨px_k263, List.forall_mem_cons.mpr ⟨px_k264, List.forall_mem_cons.mpr ⟨px_k265, List.forall_mem_cons.mpr ⟨px_k266, List.forall_mem_cons.mpr ⟨px_k267, List.forall_mem_cons.mpr ⟨px_k268, List.forall_mem_cons.mpr ⟨px_k269, List.forall_mem_cons.mpr ⟨px_k270, List.forall_mem_cons.mpr ⟨px_k271, fun _ h => absurd h List.not_mem_nil⟩⟩⟩⟩⟩⟩⟩⟩⟩⟩⟩⟩⟩⟩⟩⟩
theorem px_kc17 : ∀ q ∈ ([(272, 8205), (273, 8201), (274, 8213), (275, 8221), (276, 8217), (277, 8209), (278, 8225), (279, 0), (280, 4090), (281, 5148), (282, 3119), (283, 3122), (284, 1044), (285, 4234), (286, 4237)] : List (Nat × Nat)), px_cwP q := List.forall_mem_cons.mpr ⟨px_k272, List.forall_mem_cons.mpr ⟨px_k273, List.forall_mem_cons.mpr ⟨px_k274, List.forall_mem_cons.mpr ⟨px_k275, List.forall_mem_cons.mpr ⟨px_k276, List.forall_mem_cons.mpr ⟨px_k277, List.forall_mem_cons.mpr ⟨px_k278, List.forall_mem_cons.mpr ⟨px_k279, List.forall_mem_cons.mpr ⟨px_k280, List.forall_mem_cons.mpr ⟨px_k281, List.forall_mem_cons.mpr ⟨px_k282, List.forall_mem_cons.mpr ⟨px_k283, List.forall_mem_cons.mpr ⟨px_k284, List.forall_mem_cons.mpr ⟨px_k285, List.forall_mem_cons.mpr ⟨px_k286, fun _ h => absurd h List.not_mem_nil⟩⟩⟩⟩⟩⟩⟩⟩⟩⟩⟩⟩⟩⟩⟩
theorem px_kall : ∀ c ∈ px_cwl, ∀ q ∈ c, px_cwP q := List.forall_mem_cons.mpr ⟨px_kc0, List.forall_mem_cons.mpr ⟨px_kc1, List.forall_mem_cons.mpr ⟨px_kc2, List.forall_mem_cons.mpr ⟨px_kc3, List.forall_mem_cons.mpr ⟨px_kc4, List.forall_mem_cons.mpr ⟨px_kc5, List.forall_mem_cons.mpr ⟨px_kc6, List.forall_mem_cons.mpr ⟨px_kc7, List.forall_mem_cons.mpr ⟨px_kc8, List.forall_mem_cons.mpr ⟨px_kc9, List.forall_mem_cons.mpr ⟨px_kc10, List.forall_mem_cons.mpr ⟨px_kc11, List.forall_mem_cons.mpr ⟨px_kc12, List.forall_mem_cons.mpr ⟨px_kc13, List.forall_mem_cons.mpr ⟨px_kc14, List.forall_mem_cons.mpr ⟨px_kc15, List.forall_mem_cons.mpr ⟨px_kc16, List.forall_mem_cons.mpr ⟨px_kc17, fun _ h => absurd h List.not_mem_nil⟩⟩⟩⟩⟩⟩⟩⟩⟩⟩⟩⟩⟩⟩⟩⟩⟩⟩
