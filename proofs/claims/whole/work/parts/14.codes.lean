def px_cwP (q : Nat × Nat) : Prop := q.1 ≠ 282 → px_lk2 q.2 = some (.code (px_Y q.1) (px_B q.1) (px_mL q.1) (px_R q.1))
set_option maxRecDepth 100000 in
theorem px_k0 : px_cwP (0, 1040) := fun _ => rfl
set_option maxRecDepth 100000 in
theorem px_k1 : px_cwP (1, 4158) := fun _ => rfl
set_option maxRecDepth 100000 in
theorem px_k2 : px_cwP (2, 4206) := fun _ => rfl
set_option maxRecDepth 100000 in
theorem px_k3 : px_cwP (3, 1148) := fun _ => rfl
set_option maxRecDepth 100000 in
theorem px_k4 : px_cwP (4, 4057) := fun _ => rfl
set_option maxRecDepth 100000 in
theorem px_k5 : px_cwP (5, 4009) := fun _ => rfl
set_option maxRecDepth 100000 in
theorem px_k6 : px_cwP (6, 4005) := fun _ => rfl
set_option maxRecDepth 100000 in
theorem px_k7 : px_cwP (7, 4102) := fun _ => rfl
set_option maxRecDepth 100000 in
theorem px_k8 : px_cwP (8, 5050) := fun _ => rfl
set_option maxRecDepth 100000 in
theorem px_k9 : px_cwP (9, 5094) := fun _ => rfl
set_option maxRecDepth 100000 in
theorem px_k10 : px_cwP (10, 5102) := fun _ => rfl
set_option maxRecDepth 100000 in
theorem px_k11 : px_cwP (11, 5106) := fun _ => rfl
set_option maxRecDepth 100000 in
theorem px_k12 : px_cwP (12, 1114) := fun _ => rfl
set_option maxRecDepth 100000 in
theorem px_k13 : px_cwP (13, 4050) := fun _ => rfl
set_option maxRecDepth 100000 in
theorem px_k14 : px_cwP (14, 3213) := fun _ => rfl
set_option maxRecDepth 100000 in
theorem px_k15 : px_cwP (15, 3233) := fun _ => rfl
set_option maxRecDepth 100000 in
theorem px_k16 : px_cwP (16, 5011) := fun _ => rfl
set_option maxRecDepth 100000 in
theorem px_k17 : px_cwP (17, 4133) := fun _ => rfl
set_option maxRecDepth 100000 in
theorem px_k18 : px_cwP (18, 4137) := fun _ => rfl
set_option maxRecDepth 100000 in
theorem px_k19 : px_cwP (19, 4141) := fun _ => rfl
set_option maxRecDepth 100000 in
theorem px_k20 : px_cwP (20, 2158) := fun _ => rfl
set_option maxRecDepth 100000 in
theorem px_k21 : px_cwP (21, 3011) := fun _ => rfl
set_option maxRecDepth 100000 in
theorem px_k22 : px_cwP (22, 5063) := fun _ => rfl
set_option maxRecDepth 100000 in
theorem px_k23 : px_cwP (23, 5067) := fun _ => rfl
set_option maxRecDepth 100000 in
theorem px_k24 : px_cwP (24, 5206) := fun _ => rfl
set_option maxRecDepth 100000 in
theorem px_k25 : px_cwP (25, 5007) := fun _ => rfl
set_option maxRecDepth 100000 in
theorem px_k26 : px_cwP (26, 5018) := fun _ => rfl
set_option maxRecDepth 100000 in
theorem px_k27 : px_cwP (27, 5035) := fun _ => rfl
set_option maxRecDepth 100000 in
theorem px_k28 : px_cwP (28, 5030) := fun _ => rfl
set_option maxRecDepth 100000 in
theorem px_k29 : px_cwP (29, 5040) := fun _ => rfl
set_option maxRecDepth 100000 in
theorem px_k30 : px_cwP (30, 5045) := fun _ => rfl
set_option maxRecDepth 100000 in
theorem px_k31 : px_cwP (31, 5055) := fun _ => rfl
set_option maxRecDepth 100000 in
theorem px_k32 : px_cwP (32, 5059) := fun _ => rfl
set_option maxRecDepth 100000 in
theorem px_k33 : px_cwP (33, 5071) := fun _ => rfl
set_option maxRecDepth 100000 in
theorem px_k34 : px_cwP (34, 2145) := fun _ => rfl
set_option maxRecDepth 100000 in
theorem px_k35 : px_cwP (35, 5079) := fun _ => rfl
set_option maxRecDepth 100000 in
theorem px_k36 : px_cwP (36, 5086) := fun _ => rfl
set_option maxRecDepth 100000 in
theorem px_k37 : px_cwP (37, 1175) := fun _ => rfl
set_option maxRecDepth 100000 in
theorem px_k38 : px_cwP (38, 4067) := fun _ => rfl
set_option maxRecDepth 100000 in
theorem px_k39 : px_cwP (39, 4042) := fun _ => rfl
set_option maxRecDepth 100000 in
theorem px_k40 : px_cwP (40, 4034) := fun _ => rfl
set_option maxRecDepth 100000 in
theorem px_k41 : px_cwP (41, 2083) := fun _ => rfl
set_option maxRecDepth 100000 in
theorem px_k42 : px_cwP (42, 3057) := fun _ => rfl
set_option maxRecDepth 100000 in
theorem px_k43 : px_cwP (43, 3120) := fun _ => rfl
set_option maxRecDepth 100000 in
theorem px_k44 : px_cwP (44, 3061) := fun _ => rfl
set_option maxRecDepth 100000 in
theorem px_k45 : px_cwP (45, 3064) := fun _ => rfl
set_option maxRecDepth 100000 in
theorem px_k46 : px_cwP (46, 3067) := fun _ => rfl
set_option maxRecDepth 100000 in
theorem px_k47 : px_cwP (47, 3197) := fun _ => rfl
set_option maxRecDepth 100000 in
theorem px_k48 : px_cwP (48, 3201) := fun _ => rfl
set_option maxRecDepth 100000 in
theorem px_k49 : px_cwP (49, 3229) := fun _ => rfl
set_option maxRecDepth 100000 in
theorem px_k50 : px_cwP (50, 3217) := fun _ => rfl
set_option maxRecDepth 100000 in
theorem px_k51 : px_cwP (51, 3188) := fun _ => rfl
set_option maxRecDepth 100000 in
theorem px_k52 : px_cwP (52, 3184) := fun _ => rfl
set_option maxRecDepth 100000 in
theorem px_k53 : px_cwP (53, 3192) := fun _ => rfl
set_option maxRecDepth 100000 in
theorem px_k54 : px_cwP (54, 3205) := fun _ => rfl
set_option maxRecDepth 100000 in
theorem px_k55 : px_cwP (55, 3209) := fun _ => rfl
set_option maxRecDepth 100000 in
theorem px_k56 : px_cwP (56, 3221) := fun _ => rfl
set_option maxRecDepth 100000 in
theorem px_k57 : px_cwP (57, 3225) := fun _ => rfl
set_option maxRecDepth 100000 in
theorem px_k58 : px_cwP (58, 3237) := fun _ => rfl
set_option maxRecDepth 100000 in
theorem px_k59 : px_cwP (59, 4001) := fun _ => rfl
set_option maxRecDepth 100000 in
theorem px_k60 : px_cwP (60, 4013) := fun _ => rfl
set_option maxRecDepth 100000 in
theorem px_k61 : px_cwP (61, 4018) := fun _ => rfl
set_option maxRecDepth 100000 in
theorem px_k62 : px_cwP (62, 4022) := fun _ => rfl
set_option maxRecDepth 100000 in
theorem px_k63 : px_cwP (63, 4026) := fun _ => rfl
set_option maxRecDepth 100000 in
theorem px_k64 : px_cwP (64, 4030) := fun _ => rfl
set_option maxRecDepth 100000 in
theorem px_k65 : px_cwP (65, 4038) := fun _ => rfl
set_option maxRecDepth 100000 in
theorem px_k66 : px_cwP (66, 1199) := fun _ => rfl
set_option maxRecDepth 100000 in
theorem px_k67 : px_cwP (67, 5233) := fun _ => rfl
set_option maxRecDepth 100000 in
theorem px_k68 : px_cwP (68, 5116) := fun _ => rfl
set_option maxRecDepth 100000 in
theorem px_k69 : px_cwP (69, 5137) := fun _ => rfl
set_option maxRecDepth 100000 in
theorem px_k70 : px_cwP (70, 5185) := fun _ => rfl
set_option maxRecDepth 100000 in
theorem px_k71 : px_cwP (71, 5124) := fun _ => rfl
set_option maxRecDepth 100000 in
theorem px_k72 : px_cwP (72, 5128) := fun _ => rfl
set_option maxRecDepth 100000 in
theorem px_k73 : px_cwP (73, 5145) := fun _ => rfl
set_option maxRecDepth 100000 in
theorem px_k74 : px_cwP (74, 5150) := fun _ => rfl
set_option maxRecDepth 100000 in
theorem px_k75 : px_cwP (75, 5197) := fun _ => rfl
set_option maxRecDepth 100000 in
theorem px_k76 : px_cwP (76, 5193) := fun _ => rfl
set_option maxRecDepth 100000 in
theorem px_k77 : px_cwP (77, 2063) := fun _ => rfl
set_option maxRecDepth 100000 in
theorem px_k78 : px_cwP (78, 4154) := fun _ => rfl
set_option maxRecDepth 100000 in
theorem px_k79 : px_cwP (79, 5216) := fun _ => rfl
set_option maxRecDepth 100000 in
theorem px_k80 : px_cwP (80, 1034) := fun _ => rfl
set_option maxRecDepth 100000 in
theorem px_k81 : px_cwP (81, 5224) := fun _ => rfl
set_option maxRecDepth 100000 in
theorem px_k82 : px_cwP (82, 3026) := fun _ => rfl
set_option maxRecDepth 100000 in
theorem px_k83 : px_cwP (83, 4062) := fun _ => rfl
set_option maxRecDepth 100000 in
theorem px_k84 : px_cwP (84, 4098) := fun _ => rfl
set_option maxRecDepth 100000 in
theorem px_k85 : px_cwP (85, 4090) := fun _ => rfl
set_option maxRecDepth 100000 in
theorem px_k86 : px_cwP (86, 3022) := fun _ => rfl
set_option maxRecDepth 100000 in
theorem px_k87 : px_cwP (87, 4094) := fun _ => rfl
set_option maxRecDepth 100000 in
theorem px_k88 : px_cwP (88, 4086) := fun _ => rfl
set_option maxRecDepth 100000 in
theorem px_k89 : px_cwP (89, 4117) := fun _ => rfl
set_option maxRecDepth 100000 in
theorem px_k90 : px_cwP (90, 4107) := fun _ => rfl
set_option maxRecDepth 100000 in
theorem px_k91 : px_cwP (91, 4121) := fun _ => rfl
set_option maxRecDepth 100000 in
theorem px_k92 : px_cwP (92, 4125) := fun _ => rfl
set_option maxRecDepth 100000 in
theorem px_k93 : px_cwP (93, 4201) := fun _ => rfl
set_option maxRecDepth 100000 in
theorem px_k94 : px_cwP (94, 4129) := fun _ => rfl
set_option maxRecDepth 100000 in
theorem px_k95 : px_cwP (95, 4081) := fun _ => rfl
set_option maxRecDepth 100000 in
theorem px_k96 : px_cwP (96, 4164) := fun _ => rfl
set_option maxRecDepth 100000 in
theorem px_k97 : px_cwP (97, 4176) := fun _ => rfl
set_option maxRecDepth 100000 in
theorem px_k98 : px_cwP (98, 4168) := fun _ => rfl
set_option maxRecDepth 100000 in
theorem px_k99 : px_cwP (99, 4185) := fun _ => rfl
set_option maxRecDepth 100000 in
theorem px_k100 : px_cwP (100, 4189) := fun _ => rfl
set_option maxRecDepth 100000 in
theorem px_k101 : px_cwP (101, 4197) := fun _ => rfl
set_option maxRecDepth 100000 in
theorem px_k102 : px_cwP (102, 4193) := fun _ => rfl
set_option maxRecDepth 100000 in
theorem px_k103 : px_cwP (103, 4212) := fun _ => rfl
set_option maxRecDepth 100000 in
theorem px_k104 : px_cwP (104, 4220) := fun _ => rfl
set_option maxRecDepth 100000 in
theorem px_k105 : px_cwP (105, 5158) := fun _ => rfl
set_option maxRecDepth 100000 in
theorem px_k106 : px_cwP (106, 1026) := fun _ => rfl
set_option maxRecDepth 100000 in
theorem px_k107 : px_cwP (107, 3003) := fun _ => rfl
set_option maxRecDepth 100000 in
theorem px_k108 : px_cwP (108, 3015) := fun _ => rfl
set_option maxRecDepth 100000 in
theorem px_k109 : px_cwP (109, 3031) := fun _ => rfl
set_option maxRecDepth 100000 in
theorem px_k110 : px_cwP (110, 3037) := fun _ => rfl
set_option maxRecDepth 100000 in
theorem px_k111 : px_cwP (111, 3041) := fun _ => rfl
set_option maxRecDepth 100000 in
theorem px_k112 : px_cwP (112, 3045) := fun _ => rfl
set_option maxRecDepth 100000 in
theorem px_k113 : px_cwP (113, 3049) := fun _ => rfl
set_option maxRecDepth 100000 in
theorem px_k114 : px_cwP (114, 3053) := fun _ => rfl
set_option maxRecDepth 100000 in
theorem px_k115 : px_cwP (115, 4046) := fun _ => rfl
set_option maxRecDepth 100000 in
theorem px_k116 : px_cwP (116, 4073) := fun _ => rfl
set_option maxRecDepth 100000 in
theorem px_k117 : px_cwP (117, 4077) := fun _ => rfl
set_option maxRecDepth 100000 in
theorem px_k118 : px_cwP (118, 4172) := fun _ => rfl
set_option maxRecDepth 100000 in
theorem px_k119 : px_cwP (119, 4181) := fun _ => rfl
set_option maxRecDepth 100000 in
theorem px_k120 : px_cwP (120, 4216) := fun _ => rfl
set_option maxRecDepth 100000 in
theorem px_k121 : px_cwP (121, 4228) := fun _ => rfl
set_option maxRecDepth 100000 in
theorem px_k122 : px_cwP (122, 4234) := fun _ => rfl
set_option maxRecDepth 100000 in
theorem px_k123 : px_cwP (123, 4239) := fun _ => rfl
set_option maxRecDepth 100000 in
theorem px_k124 : px_cwP (124, 5003) := fun _ => rfl
set_option maxRecDepth 100000 in
theorem px_k125 : px_cwP (125, 5075) := fun _ => rfl
set_option maxRecDepth 100000 in
theorem px_k126 : px_cwP (126, 5090) := fun _ => rfl
set_option maxRecDepth 100000 in
theorem px_k127 : px_cwP (127, 5098) := fun _ => rfl
set_option maxRecDepth 100000 in
theorem px_k128 : px_cwP (128, 5111) := fun _ => rfl
set_option maxRecDepth 100000 in
theorem px_k129 : px_cwP (129, 5120) := fun _ => rfl
set_option maxRecDepth 100000 in
theorem px_k130 : px_cwP (130, 5133) := fun _ => rfl
set_option maxRecDepth 100000 in
theorem px_k131 : px_cwP (131, 5141) := fun _ => rfl
set_option maxRecDepth 100000 in
theorem px_k132 : px_cwP (132, 5154) := fun _ => rfl
set_option maxRecDepth 100000 in
theorem px_k133 : px_cwP (133, 5162) := fun _ => rfl
set_option maxRecDepth 100000 in
theorem px_k134 : px_cwP (134, 5173) := fun _ => rfl
set_option maxRecDepth 100000 in
theorem px_k135 : px_cwP (135, 5181) := fun _ => rfl
set_option maxRecDepth 100000 in
theorem px_k136 : px_cwP (136, 5189) := fun _ => rfl
set_option maxRecDepth 100000 in
theorem px_k137 : px_cwP (137, 5202) := fun _ => rfl
set_option maxRecDepth 100000 in
theorem px_k138 : px_cwP (138, 5212) := fun _ => rfl
set_option maxRecDepth 100000 in
theorem px_k139 : px_cwP (139, 5220) := fun _ => rfl
set_option maxRecDepth 100000 in
theorem px_k140 : px_cwP (140, 5238) := fun _ => rfl
set_option maxRecDepth 100000 in
theorem px_k141 : px_cwP (141, 6003) := fun _ => rfl
set_option maxRecDepth 100000 in
theorem px_k142 : px_cwP (142, 3007) := fun _ => rfl
set_option maxRecDepth 100000 in
theorem px_k143 : px_cwP (143, 4150) := fun _ => rfl
set_option maxRecDepth 100000 in
theorem px_k144 : px_cwP (144, 3018) := fun _ => rfl
set_option maxRecDepth 100000 in
theorem px_k145 : px_cwP (145, 4144) := fun _ => rfl
set_option maxRecDepth 100000 in
theorem px_k146 : px_cwP (146, 5166) := fun _ => rfl
set_option maxRecDepth 100000 in
theorem px_k147 : px_cwP (147, 5169) := fun _ => rfl
set_option maxRecDepth 100000 in
theorem px_k148 : px_cwP (148, 6008) := fun _ => rfl
set_option maxRecDepth 100000 in
theorem px_k149 : px_cwP (149, 6219) := fun _ => rfl
set_option maxRecDepth 100000 in
theorem px_k150 : px_cwP (150, 8016) := fun _ => rfl
set_option maxRecDepth 100000 in
theorem px_k151 : px_cwP (151, 8155) := fun _ => rfl
set_option maxRecDepth 100000 in
theorem px_k152 : px_cwP (152, 7216) := fun _ => rfl
set_option maxRecDepth 100000 in
theorem px_k153 : px_cwP (153, 8020) := fun _ => rfl
set_option maxRecDepth 100000 in
theorem px_k154 : px_cwP (154, 6207) := fun _ => rfl
set_option maxRecDepth 100000 in
theorem px_k155 : px_cwP (155, 8147) := fun _ => rfl
set_option maxRecDepth 100000 in
theorem px_k156 : px_cwP (156, 8151) := fun _ => rfl
set_option maxRecDepth 100000 in
theorem px_k157 : px_cwP (157, 6211) := fun _ => rfl
set_option maxRecDepth 100000 in
theorem px_k158 : px_cwP (158, 8060) := fun _ => rfl
set_option maxRecDepth 100000 in
theorem px_k159 : px_cwP (159, 8098) := fun _ => rfl
set_option maxRecDepth 100000 in
theorem px_k160 : px_cwP (160, 6236) := fun _ => rfl
set_option maxRecDepth 100000 in
theorem px_k161 : px_cwP (161, 6223) := fun _ => rfl
set_option maxRecDepth 100000 in
theorem px_k162 : px_cwP (162, 7208) := fun _ => rfl
set_option maxRecDepth 100000 in
theorem px_k163 : px_cwP (163, 6215) := fun _ => rfl
set_option maxRecDepth 100000 in
theorem px_k164 : px_cwP (164, 6231) := fun _ => rfl
set_option maxRecDepth 100000 in
theorem px_k165 : px_cwP (165, 6227) := fun _ => rfl
set_option maxRecDepth 100000 in
theorem px_k166 : px_cwP (166, 7004) := fun _ => rfl
set_option maxRecDepth 100000 in
theorem px_k167 : px_cwP (167, 7000) := fun _ => rfl
set_option maxRecDepth 100000 in
theorem px_k168 : px_cwP (168, 7008) := fun _ => rfl
set_option maxRecDepth 100000 in
theorem px_k169 : px_cwP (169, 7024) := fun _ => rfl
set_option maxRecDepth 100000 in
theorem px_k170 : px_cwP (170, 7028) := fun _ => rfl
set_option maxRecDepth 100000 in
theorem px_k171 : px_cwP (171, 7036) := fun _ => rfl
set_option maxRecDepth 100000 in
theorem px_k172 : px_cwP (172, 7040) := fun _ => rfl
set_option maxRecDepth 100000 in
theorem px_k173 : px_cwP (173, 7032) := fun _ => rfl
set_option maxRecDepth 100000 in
theorem px_k174 : px_cwP (174, 7020) := fun _ => rfl
set_option maxRecDepth 100000 in
theorem px_k175 : px_cwP (175, 7052) := fun _ => rfl
set_option maxRecDepth 100000 in
theorem px_k176 : px_cwP (176, 7048) := fun _ => rfl
set_option maxRecDepth 100000 in
theorem px_k177 : px_cwP (177, 7076) := fun _ => rfl
set_option maxRecDepth 100000 in
theorem px_k178 : px_cwP (178, 7152) := fun _ => rfl
set_option maxRecDepth 100000 in
theorem px_k179 : px_cwP (179, 7148) := fun _ => rfl
set_option maxRecDepth 100000 in
theorem px_k180 : px_cwP (180, 7144) := fun _ => rfl
set_option maxRecDepth 100000 in
theorem px_k181 : px_cwP (181, 7140) := fun _ => rfl
set_option maxRecDepth 100000 in
theorem px_k182 : px_cwP (182, 7136) := fun _ => rfl
set_option maxRecDepth 100000 in
theorem px_k183 : px_cwP (183, 7164) := fun _ => rfl
set_option maxRecDepth 100000 in
theorem px_k184 : px_cwP (184, 7160) := fun _ => rfl
set_option maxRecDepth 100000 in
theorem px_k185 : px_cwP (185, 7168) := fun _ => rfl
set_option maxRecDepth 100000 in
theorem px_k186 : px_cwP (186, 7156) := fun _ => rfl
set_option maxRecDepth 100000 in
theorem px_k187 : px_cwP (187, 7132) := fun _ => rfl
set_option maxRecDepth 100000 in
theorem px_k188 : px_cwP (188, 7128) := fun _ => rfl
set_option maxRecDepth 100000 in
theorem px_k189 : px_cwP (189, 7172) := fun _ => rfl
set_option maxRecDepth 100000 in
theorem px_k190 : px_cwP (190, 7068) := fun _ => rfl
set_option maxRecDepth 100000 in
theorem px_k191 : px_cwP (191, 7064) := fun _ => rfl
set_option maxRecDepth 100000 in
theorem px_k192 : px_cwP (192, 7072) := fun _ => rfl
set_option maxRecDepth 100000 in
theorem px_k193 : px_cwP (193, 7060) := fun _ => rfl
set_option maxRecDepth 100000 in
theorem px_k194 : px_cwP (194, 7056) := fun _ => rfl
set_option maxRecDepth 100000 in
theorem px_k195 : px_cwP (195, 7080) := fun _ => rfl
set_option maxRecDepth 100000 in
theorem px_k196 : px_cwP (196, 7044) := fun _ => rfl
set_option maxRecDepth 100000 in
theorem px_k197 : px_cwP (197, 7092) := fun _ => rfl
set_option maxRecDepth 100000 in
theorem px_k198 : px_cwP (198, 7088) := fun _ => rfl
set_option maxRecDepth 100000 in
theorem px_k199 : px_cwP (199, 7084) := fun _ => rfl
set_option maxRecDepth 100000 in
theorem px_k200 : px_cwP (200, 7112) := fun _ => rfl
set_option maxRecDepth 100000 in
theorem px_k201 : px_cwP (201, 7104) := fun _ => rfl
set_option maxRecDepth 100000 in
theorem px_k202 : px_cwP (202, 7108) := fun _ => rfl
set_option maxRecDepth 100000 in
theorem px_k203 : px_cwP (203, 7116) := fun _ => rfl
set_option maxRecDepth 100000 in
theorem px_k204 : px_cwP (204, 7120) := fun _ => rfl
set_option maxRecDepth 100000 in
theorem px_k205 : px_cwP (205, 7100) := fun _ => rfl
set_option maxRecDepth 100000 in
theorem px_k206 : px_cwP (206, 7124) := fun _ => rfl
set_option maxRecDepth 100000 in
theorem px_k207 : px_cwP (207, 7096) := fun _ => rfl
set_option maxRecDepth 100000 in
theorem px_k208 : px_cwP (208, 7016) := fun _ => rfl
set_option maxRecDepth 100000 in
theorem px_k209 : px_cwP (209, 7176) := fun _ => rfl
set_option maxRecDepth 100000 in
theorem px_k210 : px_cwP (210, 7012) := fun _ => rfl
set_option maxRecDepth 100000 in
theorem px_k211 : px_cwP (211, 7180) := fun _ => rfl
set_option maxRecDepth 100000 in
theorem px_k212 : px_cwP (212, 8012) := fun _ => rfl
set_option maxRecDepth 100000 in
theorem px_k213 : px_cwP (213, 8008) := fun _ => rfl
set_option maxRecDepth 100000 in
theorem px_k214 : px_cwP (214, 8004) := fun _ => rfl
set_option maxRecDepth 100000 in
theorem px_k215 : px_cwP (215, 7228) := fun _ => rfl
set_option maxRecDepth 100000 in
theorem px_k216 : px_cwP (216, 7232) := fun _ => rfl
set_option maxRecDepth 100000 in
theorem px_k217 : px_cwP (217, 8056) := fun _ => rfl
set_option maxRecDepth 100000 in
theorem px_k218 : px_cwP (218, 8000) := fun _ => rfl
set_option maxRecDepth 100000 in
theorem px_k219 : px_cwP (219, 7236) := fun _ => rfl
set_option maxRecDepth 100000 in
theorem px_k220 : px_cwP (220, 7224) := fun _ => rfl
set_option maxRecDepth 100000 in
theorem px_k221 : px_cwP (221, 7192) := fun _ => rfl
set_option maxRecDepth 100000 in
theorem px_k222 : px_cwP (222, 7188) := fun _ => rfl
set_option maxRecDepth 100000 in
theorem px_k223 : px_cwP (223, 8119) := fun _ => rfl
set_option maxRecDepth 100000 in
theorem px_k224 : px_cwP (224, 7184) := fun _ => rfl
set_option maxRecDepth 100000 in
theorem px_k225 : px_cwP (225, 7212) := fun _ => rfl
set_option maxRecDepth 100000 in
theorem px_k226 : px_cwP (226, 7220) := fun _ => rfl
set_option maxRecDepth 100000 in
theorem px_k227 : px_cwP (227, 7204) := fun _ => rfl
set_option maxRecDepth 100000 in
theorem px_k228 : px_cwP (228, 8028) := fun _ => rfl
set_option maxRecDepth 100000 in
theorem px_k229 : px_cwP (229, 7200) := fun _ => rfl
set_option maxRecDepth 100000 in
theorem px_k230 : px_cwP (230, 8024) := fun _ => rfl
set_option maxRecDepth 100000 in
theorem px_k231 : px_cwP (231, 7196) := fun _ => rfl
set_option maxRecDepth 100000 in
theorem px_k232 : px_cwP (232, 8036) := fun _ => rfl
set_option maxRecDepth 100000 in
theorem px_k233 : px_cwP (233, 8032) := fun _ => rfl
set_option maxRecDepth 100000 in
theorem px_k234 : px_cwP (234, 8048) := fun _ => rfl
set_option maxRecDepth 100000 in
theorem px_k235 : px_cwP (235, 8052) := fun _ => rfl
set_option maxRecDepth 100000 in
theorem px_k236 : px_cwP (236, 8066) := fun _ => rfl
set_option maxRecDepth 100000 in
theorem px_k237 : px_cwP (237, 8044) := fun _ => rfl
set_option maxRecDepth 100000 in
theorem px_k238 : px_cwP (238, 8040) := fun _ => rfl
set_option maxRecDepth 100000 in
theorem px_k239 : px_cwP (239, 8078) := fun _ => rfl
set_option maxRecDepth 100000 in
theorem px_k240 : px_cwP (240, 8074) := fun _ => rfl
set_option maxRecDepth 100000 in
theorem px_k241 : px_cwP (241, 8070) := fun _ => rfl
set_option maxRecDepth 100000 in
theorem px_k242 : px_cwP (242, 8082) := fun _ => rfl
set_option maxRecDepth 100000 in
theorem px_k243 : px_cwP (243, 8086) := fun _ => rfl
set_option maxRecDepth 100000 in
theorem px_k244 : px_cwP (244, 8106) := fun _ => rfl
set_option maxRecDepth 100000 in
theorem px_k245 : px_cwP (245, 8127) := fun _ => rfl
set_option maxRecDepth 100000 in
theorem px_k246 : px_cwP (246, 8115) := fun _ => rfl
set_option maxRecDepth 100000 in
theorem px_k247 : px_cwP (247, 8123) := fun _ => rfl
set_option maxRecDepth 100000 in
theorem px_k248 : px_cwP (248, 8111) := fun _ => rfl
set_option maxRecDepth 100000 in
theorem px_k249 : px_cwP (249, 8094) := fun _ => rfl
set_option maxRecDepth 100000 in
theorem px_k250 : px_cwP (250, 8102) := fun _ => rfl
set_option maxRecDepth 100000 in
theorem px_k251 : px_cwP (251, 8131) := fun _ => rfl
set_option maxRecDepth 100000 in
theorem px_k252 : px_cwP (252, 8135) := fun _ => rfl
set_option maxRecDepth 100000 in
theorem px_k253 : px_cwP (253, 8090) := fun _ => rfl
set_option maxRecDepth 100000 in
theorem px_k254 : px_cwP (254, 8143) := fun _ => rfl
set_option maxRecDepth 100000 in
theorem px_k255 : px_cwP (255, 8139) := fun _ => rfl
set_option maxRecDepth 100000 in
theorem px_k256 : px_cwP (256, 8167) := fun _ => rfl
set_option maxRecDepth 100000 in
theorem px_k257 : px_cwP (257, 8163) := fun _ => rfl
set_option maxRecDepth 100000 in
theorem px_k258 : px_cwP (258, 8171) := fun _ => rfl
set_option maxRecDepth 100000 in
theorem px_k259 : px_cwP (259, 8159) := fun _ => rfl
set_option maxRecDepth 100000 in
theorem px_k260 : px_cwP (260, 8175) := fun _ => rfl
set_option maxRecDepth 100000 in
theorem px_k261 : px_cwP (261, 8179) := fun _ => rfl
set_option maxRecDepth 100000 in
theorem px_k262 : px_cwP (262, 8183) := fun _ => rfl
set_option maxRecDepth 100000 in
theorem px_k263 : px_cwP (263, 8195) := fun _ => rfl
set_option maxRecDepth 100000 in
theorem px_k264 : px_cwP (264, 8191) := fun _ => rfl
set_option maxRecDepth 100000 in
theorem px_k265 : px_cwP (265, 8187) := fun _ => rfl
set_option maxRecDepth 100000 in
theorem px_k266 : px_cwP (266, 8199) := fun _ => rfl
set_option maxRecDepth 100000 in
theorem px_k267 : px_cwP (267, 8207) := fun _ => rfl
set_option maxRecDepth 100000 in
theorem px_k268 : px_cwP (268, 8203) := fun _ => rfl
set_option maxRecDepth 100000 in
theorem px_k269 : px_cwP (269, 8211) := fun _ => rfl
set_option maxRecDepth 100000 in
theorem px_k270 : px_cwP (270, 8224) := fun _ => rfl
set_option maxRecDepth 100000 in
theorem px_k271 : px_cwP (271, 8220) := fun _ => rfl
set_option maxRecDepth 100000 in
theorem px_k272 : px_cwP (272, 8215) := fun _ => rfl
set_option maxRecDepth 100000 in
theorem px_k273 : px_cwP (273, 8228) := fun _ => rfl
set_option maxRecDepth 100000 in
theorem px_k274 : px_cwP (274, 8232) := fun _ => rfl
set_option maxRecDepth 100000 in
theorem px_k275 : px_cwP (275, 9000) := fun _ => rfl
set_option maxRecDepth 100000 in
theorem px_k276 : px_cwP (276, 8236) := fun _ => rfl
set_option maxRecDepth 100000 in
theorem px_k277 : px_cwP (277, 9008) := fun _ => rfl
set_option maxRecDepth 100000 in
theorem px_k278 : px_cwP (278, 9016) := fun _ => rfl
set_option maxRecDepth 100000 in
theorem px_k279 : px_cwP (279, 9012) := fun _ => rfl
set_option maxRecDepth 100000 in
theorem px_k280 : px_cwP (280, 9004) := fun _ => rfl
set_option maxRecDepth 100000 in
theorem px_k281 : px_cwP (281, 9020) := fun _ => rfl
theorem px_k282 : px_cwP (282, 0) := fun h => absurd rfl h
set_option maxRecDepth 100000 in
theorem px_k283 : px_cwP (283, 4110) := fun _ => rfl
set_option maxRecDepth 100000 in
theorem px_k284 : px_cwP (284, 5177) := fun _ => rfl
set_option maxRecDepth 100000 in
theorem px_k285 : px_cwP (285, 3139) := fun _ => rfl
set_option maxRecDepth 100000 in
theorem px_k286 : px_cwP (286, 3142) := fun _ => rfl
set_option maxRecDepth 100000 in
theorem px_k287 : px_cwP (287, 1044) := fun _ => rfl
set_option maxRecDepth 100000 in
theorem px_k288 : px_cwP (288, 5023) := fun _ => rfl
set_option maxRecDepth 100000 in
theorem px_k289 : px_cwP (289, 5026) := fun _ => rfl
theorem px_kc0 : ∀ q ∈ ([(0, 1040), (1, 4158), (2, 4206), (3, 1148), (4, 4057), (5, 4009), (6, 4005), (7, 4102), (8, 5050), (9, 5094), (10, 5102), (11, 5106), (12, 1114), (13, 4050), (14, 3213), (15, 3233)] : List (Nat × Nat)), px_cwP q := List.forall_mem_cons.mpr ⟨px_k0, List.forall_mem_cons.mpr ⟨px_k1, List.forall_mem_cons.mpr ⟨px_k2, List.forall_mem_cons.mpr ⟨px_k3, List.forall_mem_cons.mpr ⟨px_k4, List.forall_mem_cons.mpr ⟨px_k5, List.forall_mem_cons.mpr ⟨px_k6, List.forall_mem_cons.mpr ⟨px_k7, List.forall_mem_cons.mpr ⟨px_k8, List.forall_mem_cons.mpr ⟨px_k9, List.forall_mem_cons.mpr ⟨px_k10, List.forall_mem_cons.mpr ⟨px_k11, List.forall_mem_cons.mpr ⟨px_k12, List.forall_mem_cons.mpr ⟨px_k13, List.forall_mem_cons.mpr ⟨px_k14, List.forall_mem_cons.mpr ⟨px_k15, fun _ h => absurd h List.not_mem_nil⟩⟩⟩⟩⟩⟩⟩⟩⟩⟩⟩⟩⟩⟩⟩⟩
theorem px_kc1 : ∀ q ∈ ([(16, 5011), (17, 4133), (18, 4137), (19, 4141), (20, 2158), (21, 3011), (22, 5063), (23, 5067), (24, 5206), (25, 5007), (26, 5018), (27, 5035), (28, 5030), (29, 5040), (30, 5045), (31, 5055)] : List (Nat × Nat)), px_cwP q := List.forall_mem_cons.mpr ⟨px_k16, List.forall_mem_cons.mpr ⟨px_k17, List.forall_mem_cons.mpr ⟨px_k18, List.forall_mem_cons.mpr ⟨px_k19, List.forall_mem_cons.mpr ⟨px_k20, List.forall_mem_cons.mpr ⟨px_k21, List.forall_mem_cons.mpr ⟨px_k22, List.forall_mem_cons.mpr ⟨px_k23, List.forall_mem_cons.mpr ⟨px_k24, List.forall_mem_cons.mpr ⟨px_k25, List.forall_mem_cons.mpr ⟨px_k26, List.forall_mem_cons.mpr ⟨px_k27, List.forall_mem_cons.mpr ⟨px_k28, List.forall_mem_cons.mpr ⟨px_k29, List.forall_mem_cons.mpr ⟨px_k30, List.forall_mem_cons.mpr ⟨px_k31, fun _ h => absurd h List.not_mem_nil⟩⟩⟩⟩⟩⟩⟩⟩⟩⟩⟩⟩⟩⟩⟩⟩
theorem px_kc2 : ∀ q ∈ ([(32, 5059), (33, 5071), (34, 2145), (35, 5079), (36, 5086), (37, 1175), (38, 4067), (39, 4042), (40, 4034), (41, 2083), (42, 3057), (43, 3120), (44, 3061), (45, 3064), (46, 3067), (47, 3197)] : List (Nat × Nat)), px_cwP q := List.forall_mem_cons.mpr ⟨px_k32, List.forall_mem_cons.mpr ⟨px_k33, List.forall_mem_cons.mpr ⟨px_k34, List.forall_mem_cons.mpr ⟨px_k35, List.forall_mem_cons.mpr ⟨px_k36, List.forall_mem_cons.mpr ⟨px_k37, List.forall_mem_cons.mpr ⟨px_k38, List.forall_mem_cons.mpr ⟨px_k39, List.forall_mem_cons.mpr ⟨px_k40, List.forall_mem_cons.mpr ⟨px_k41, List.forall_mem_cons.mpr ⟨px_k42, List.forall_mem_cons.mpr ⟨px_k43, List.forall_mem_cons.mpr ⟨px_k44, List.forall_mem_cons.mpr ⟨px_k45, List.forall_mem_cons.mpr ⟨px_k46, List.forall_mem_cons.mpr ⟨px_k47, fun _ h => absurd h List.not_mem_nil⟩⟩⟩⟩⟩⟩⟩⟩⟩⟩⟩⟩⟩⟩⟩⟩
theorem px_kc3 : ∀ q ∈ ([(48, 3201), (49, 3229), (50, 3217), (51, 3188), (52, 3184), (53, 3192), (54, 3205), (55, 3209), (56, 3221), (57, 3225), (58, 3237), (59, 4001), (60, 4013), (61, 4018), (62, 4022), (63, 4026)] : List (Nat × Nat)), px_cwP q := List.forall_mem_cons.mpr ⟨px_k48, List.forall_mem_cons.mpr ⟨px_k49, List.forall_mem_cons.mpr ⟨px_k50, List.forall_mem_cons.mpr ⟨px_k51, List.forall_mem_cons.mpr ⟨px_k52, List.forall_mem_cons.mpr ⟨px_k53, List.forall_mem_cons.mpr ⟨px_k54, List.forall_mem_cons.mpr ⟨px_k55, List.forall_mem_cons.mpr ⟨px_k56, List.forall_mem_cons.mpr ⟨px_k57, List.forall_mem_cons.mpr ⟨px_k58, List.forall_mem_cons.mpr ⟨px_k59, List.forall_mem_cons.mpr ⟨px_k60, List.forall_mem_cons.mpr ⟨px_k61, List.forall_mem_cons.mpr ⟨px_k62, List.forall_mem_cons.mpr ⟨px_k63, fun _ h => absurd h List.not_mem_nil⟩⟩⟩⟩⟩⟩⟩⟩⟩⟩⟩⟩⟩⟩⟩⟩
theorem px_kc4 : ∀ q ∈ ([(64, 4030), (65, 4038), (66, 1199), (67, 5233), (68, 5116), (69, 5137), (70, 5185), (71, 5124), (72, 5128), (73, 5145), (74, 5150), (75, 5197), (76, 5193), (77, 2063), (78, 4154), (79, 5216)] : List (Nat × Nat)), px_cwP q := List.forall_mem_cons.mpr ⟨px_k64, List.forall_mem_cons.mpr ⟨px_k65, List.forall_mem_cons.mpr ⟨px_k66, List.forall_mem_cons.mpr ⟨px_k67, List.forall_mem_cons.mpr ⟨px_k68, List.forall_mem_cons.mpr ⟨px_k69, List.forall_mem_cons.mpr ⟨px_k70, List.forall_mem_cons.mpr ⟨px_k71, List.forall_mem_cons.mpr ⟨px_k72, List.forall_mem_cons.mpr ⟨px_k73, List.forall_mem_cons.mpr ⟨px_k74, List.forall_mem_cons.mpr ⟨px_k75, List.forall_mem_cons.mpr ⟨px_k76, List.forall_mem_cons.mpr ⟨px_k77, List.forall_mem_cons.mpr ⟨px_k78, List.forall_mem_cons.mpr ⟨px_k79, fun _ h => absurd h List.not_mem_nil⟩⟩⟩⟩⟩⟩⟩⟩⟩⟩⟩⟩⟩⟩⟩⟩
theorem px_kc5 : ∀ q ∈ ([(80, 1034), (81, 5224), (82, 3026), (83, 4062), (84, 4098), (85, 4090), (86, 3022), (87, 4094), (88, 4086), (89, 4117), (90, 4107), (91, 4121), (92, 4125), (93, 4201), (94, 4129), (95, 4081)] : List (Nat × Nat)), px_cwP q := List.forall_mem_cons.mpr ⟨px_k80, List.forall_mem_cons.mpr ⟨px_k81, List.forall_mem_cons.mpr ⟨px_k82, List.forall_mem_cons.mpr ⟨px_k83, List.forall_mem_cons.mpr ⟨px_k84, List.forall_mem_cons.mpr ⟨px_k85, List.forall_mem_cons.mpr ⟨px_k86, List.forall_mem_cons.mpr ⟨px_k87, List.forall_mem_cons.mpr ⟨px_k88, List.forall_mem_cons.mpr ⟨px_k89, List.forall_mem_cons.mpr ⟨px_k90, List.forall_mem_cons.mpr ⟨px_k91, List.forall_mem_cons.mpr ⟨px_k92, List.forall_mem_cons.mpr ⟨px_k93, List.forall_mem_cons.mpr ⟨px_k94, List.forall_mem_cons.mpr ⟨px_k95, fun _ h => absurd h List.not_mem_nil⟩⟩⟩⟩⟩⟩⟩⟩⟩⟩⟩⟩⟩⟩⟩⟩
theorem px_kc6 : ∀ q ∈ ([(96, 4164), (97, 4176), (98, 4168), (99, 4185), (100, 4189), (101, 4197), (102, 4193), (103, 4212), (104, 4220), (105, 5158), (106, 1026), (107, 3003), (108, 3015), (109, 3031), (110, 3037), (111, 3041)] : List (Nat × Nat)), px_cwP q := List.forall_mem_cons.mpr ⟨px_k96, List.forall_mem_cons.mpr ⟨px_k97, List.forall_mem_cons.mpr ⟨px_k98, List.forall_mem_cons.mpr ⟨px_k99, List.forall_mem_cons.mpr ⟨px_k100, List.forall_mem_cons.mpr ⟨px_k101, List.forall_mem_cons.mpr ⟨px_k102, List.forall_mem_cons.mpr ⟨px_k103, List.forall_mem_cons.mpr ⟨px_k104, List.forall_mem_cons.mpr ⟨px_k105, List.forall_mem_cons.mpr ⟨px_k106, List.forall_mem_cons.mpr ⟨px_k107, List.forall_mem_cons.mpr ⟨px_k108, List.forall_mem_cons.mpr ⟨px_k109, List.forall_mem_cons.mpr ⟨px_k110, List.forall_mem_cons.mpr ⟨px_k111, fun _ h => absurd h List.not_mem_nil⟩⟩⟩⟩⟩⟩⟩⟩⟩⟩⟩⟩⟩⟩⟩⟩
theorem px_kc7 : ∀ q ∈ ([(112, 3045), (113, 3049), (114, 3053), (115, 4046), (116, 4073), (117, 4077), (118, 4172), (119, 4181), (120, 4216), (121, 4228), (122, 4234), (123, 4239), (124, 5003), (125, 5075), (126, 5090), (127, 5098)] : List (Nat × Nat)), px_cwP q := List.forall_mem_cons.mpr ⟨px_k112, List.forall_mem_cons.mpr ⟨px_k113, List.forall_mem_cons.mpr ⟨px_k114, List.forall_mem_cons.mpr ⟨px_k115, List.forall_mem_cons.mpr ⟨px_k116, List.forall_mem_cons.mpr ⟨px_k117, List.forall_mem_cons.mpr ⟨px_k118, List.forall_mem_cons.mpr ⟨px_k119, List.forall_mem_cons.mpr ⟨px_k120, List.forall_mem_cons.mpr ⟨px_k121, List.forall_mem_cons.mpr ⟨px_k122, List.forall_mem_cons.mpr ⟨px_k123, List.forall_mem_cons.mpr ⟨px_k124, List.forall_mem_cons.mpr ⟨px_k125, List.forall_mem_cons.mpr ⟨px_k126, List.forall_mem_cons.mpr ⟨px_k127, fun _ h => absurd h List.not_mem_nil⟩⟩⟩⟩⟩⟩⟩⟩⟩⟩⟩⟩⟩⟩⟩⟩
theorem px_kc8 : ∀ q ∈ ([(128, 5111), (129, 5120), (130, 5133), (131, 5141), (132, 5154), (133, 5162), (134, 5173), (135, 5181), (136, 5189), (137, 5202), (138, 5212), (139, 5220), (140, 5238), (141, 6003), (142, 3007), (143, 4150)] : List (Nat × Nat)), px_cwP q := List.forall_mem_cons.mpr ⟨px_k128, List.forall_mem_cons.mpr ⟨px_k129, List.forall_mem_cons.mpr ⟨px_k130, List.forall_mem_cons.mpr ⟨px_k131, List.forall_mem_cons.mpr ⟨px_k132, List.forall_mem_cons.mpr ⟨px_k133, List.forall_mem_cons.mpr ⟨px_k134, List.forall_mem_cons.mpr ⟨px_k135, List.forall_mem_cons.mpr ⟨px_k136, List.forall_mem_cons.mpr ⟨px_k137, List.forall_mem_cons.mpr ⟨px_k138, List.forall_mem_cons.mpr ⟨px_k139, List.forall_mem_cons.mpr ⟨px_k140, List.forall_mem_cons.mpr ⟨px_k141, List.forall_mem_cons.mpr ⟨px_k142, List.forall_mem_cons.mpr ⟨px_k143, fun _ h => absurd h List.not_mem_nil⟩⟩⟩⟩⟩⟩⟩⟩⟩⟩⟩⟩⟩⟩⟩⟩
theorem px_kc9 : ∀ q ∈ ([(144, 3018), (145, 4144), (146, 5166), (147, 5169), (148, 6008), (149, 6219), (150, 8016), (151, 8155), (152, 7216), (153, 8020), (154, 6207), (155, 8147), (156, 8151), (157, 6211), (158, 8060), (159, 8098)] : List (Nat × Nat)), px_cwP q := List.forall_mem_cons.mpr ⟨px_k144, List.forall_mem_cons.mpr ⟨px_k145, List.forall_mem_cons.mpr ⟨px_k146, List.forall_mem_cons.mpr ⟨px_k147, List.forall_mem_cons.mpr ⟨px_k148, List.forall_mem_cons.mpr ⟨px_k149, List.forall_mem_cons.mpr ⟨px_k150, List.forall_mem_cons.mpr ⟨px_k151, List.forall_mem_cons.mpr ⟨px_k152, List.forall_mem_cons.mpr ⟨px_k153, List.forall_mem_cons.mpr ⟨px_k154, List.forall_mem_cons.mpr ⟨px_k155, List.forall_mem_cons.mpr ⟨px_k156, List.forall_mem_cons.mpr ⟨px_k157, List.forall_mem_cons.mpr ⟨px_k158, List.forall_mem_cons.mpr ⟨px_k159, fun _ h => absurd h List.not_mem_nil⟩⟩⟩⟩⟩⟩⟩⟩⟩⟩⟩⟩⟩⟩⟩⟩
theorem px_kc10 : ∀ q ∈ ([(160, 6236), (161, 6223), (162, 7208), (163, 6215), (164, 6231), (165, 6227), (166, 7004), (167, 7000), (168, 7008), (169, 7024), (170, 7028), (171, 7036), (172, 7040), (173, 7032), (174, 7020), (175, 7052)] : List (Nat × Nat)), px_cwP q := List.forall_mem_cons.mpr ⟨px_k160, List.forall_mem_cons.mpr ⟨px_k161, List.forall_mem_cons.mpr ⟨px_k162, List.forall_mem_cons.mpr ⟨px_k163, List.forall_mem_cons.mpr ⟨px_k164, List.forall_mem_cons.mpr ⟨px_k165, List.forall_mem_cons.mpr ⟨px_k166, List.forall_mem_cons.mpr ⟨px_k167, List.forall_mem_cons.mpr ⟨px_k168, List.forall_mem_cons.mpr ⟨px_k169, List.forall_mem_cons.mpr ⟨px_k170, List.forall_mem_cons.mpr ⟨px_k171, List.forall_mem_cons.mpr ⟨px_k172, List.forall_mem_cons.mpr ⟨px_k173, List.forall_mem_cons.mpr ⟨px_k174, List.forall_mem_cons.mpr ⟨px_k175, fun _ h => absurd h List.not_mem_nil⟩⟩⟩⟩⟩⟩⟩⟩⟩⟩⟩⟩⟩⟩⟩⟩
theorem px_kc11 : ∀ q ∈ ([(176, 7048), (177, 7076), (178, 7152), (179, 7148), (180, 7144), (181, 7140), (182, 7136), (183, 7164), (184, 7160), (185, 7168), (186, 7156), (187, 7132), (188, 7128), (189, 7172), (190, 7068), (191, 7064)] : List (Nat × Nat)), px_cwP q := List.forall_mem_cons.mpr ⟨px_k176, List.forall_mem_cons.mpr ⟨px_k177, List.forall_mem_cons.mpr ⟨px_k178, List.forall_mem_cons.mpr ⟨px_k179, List.forall_mem_cons.mpr ⟨px_k180, List.forall_mem_cons.mpr ⟨px_k181, List.forall_mem_cons.mpr ⟨px_k182, List.forall_mem_cons.mpr ⟨px_k183, List.forall_mem_cons.mpr ⟨px_k184, List.forall_mem_cons.mpr ⟨px_k185, List.forall_mem_cons.mpr ⟨px_k186, List.forall_mem_cons.mpr ⟨px_k187, List.forall_mem_cons.mpr ⟨px_k188, List.forall_mem_cons.mpr ⟨px_k189, List.forall_mem_cons.mpr ⟨px_k190, List.forall_mem_cons.mpr ⟨px_k191, fun _ h => absurd h List.not_mem_nil⟩⟩⟩⟩⟩⟩⟩⟩⟩⟩⟩⟩⟩⟩⟩⟩
theorem px_kc12 : ∀ q ∈ ([(192, 7072), (193, 7060), (194, 7056), (195, 7080), (196, 7044), (197, 7092), (198, 7088), (199, 7084), (200, 7112), (201, 7104), (202, 7108), (203, 7116), (204, 7120), (205, 7100), (206, 7124), (207, 7096)] : List (Nat × Nat)), px_cwP q := List.forall_mem_cons.mpr ⟨px_k192, List.forall_mem_cons.mpr ⟨px_k193, List.forall_mem_cons.mpr ⟨px_k194, List.forall_mem_cons.mpr ⟨px_k195, List.forall_mem_cons.mpr ⟨px_k196, List.forall_mem_cons.mpr ⟨px_k197, List.forall_mem_cons.mpr ⟨px_k198, List.forall_mem_cons.mpr ⟨px_k199, List.forall_mem_cons.mpr ⟨px_k200, List.forall_mem_cons.mpr ⟨px_k201, List.forall_mem_cons.mpr ⟨px_k202, List.forall_mem_cons.mpr ⟨px_k203, List.forall_mem_cons.mpr ⟨px_k204, List.forall_mem_cons.mpr ⟨px_k205, List.forall_mem_cons.mpr ⟨px_k206, List.forall_mem_cons.mpr ⟨px_k207, fun _ h => absurd h List.not_mem_nil⟩⟩⟩⟩⟩⟩⟩⟩⟩⟩⟩⟩⟩⟩⟩⟩
theorem px_kc13 : ∀ q ∈ ([(208, 7016), (209, 7176), (210, 7012), (211, 7180), (212, 8012), (213, 8008), (214, 8004), (215, 7228), (216, 7232), (217, 8056), (218, 8000), (219, 7236), (220, 7224), (221, 7192), (222, 7188), (223, 8119)] : List (Nat × Nat)), px_cwP q := List.forall_mem_cons.mpr ⟨px_k208, List.forall_mem_cons.mpr ⟨px_k209, List.forall_mem_cons.mpr ⟨px_k210, List.forall_mem_cons.mpr ⟨px_k211, List.forall_mem_cons.mpr ⟨px_k212, List.forall_mem_cons.mpr ⟨px_k213, List.forall_mem_cons.mpr ⟨px_k214, List.forall_mem_cons.mpr ⟨px_k215, List.forall_mem_cons.mpr ⟨px_k216, List.forall_mem_cons.mpr ⟨px_k217, List.forall_mem_cons.mpr ⟨px_k218, List.forall_mem_cons.mpr ⟨px_k219, List.forall_mem_cons.mpr ⟨px_k220, List.forall_mem_cons.mpr ⟨px_k221, List.forall_mem_cons.mpr ⟨px_k222, List.forall_mem_cons.mpr ⟨px_k223, fun _ h => absurd h List.not_mem_nil⟩⟩⟩⟩⟩⟩⟩⟩⟩⟩⟩⟩⟩⟩⟩⟩
theorem px_kc14 : ∀ q ∈ ([(224, 7184), (225, 7212), (226, 7220), (227, 7204), (228, 8028), (229, 7200), (230, 8024), (231, 7196), (232, 8036), (233, 8032), (234, 8048), (235, 8052), (236, 8066), (237, 8044), (238, 8040), (239, 8078)] : List (Nat × Nat)), px_cwP q := List.forall_mem_cons.mpr ⟨px_k224, List.forall_mem_cons.mpr ⟨px_k225, List.forall_mem_cons.mpr ⟨px_k226, List.forall_mem_cons.mpr ⟨px_k227, List.forall_mem_cons.mpr ⟨px_k228, List.forall_mem_cons.mpr ⟨px_k229, List.forall_mem_cons.mpr ⟨px_k230, List.forall_mem_cons.mpr ⟨px_k231, List.forall_mem_cons.mpr ⟨px_k232, List.forall_mem_cons.mpr ⟨px_k233, List.forall_mem_cons.mpr ⟨px_k234, List.forall_mem_cons.mpr ⟨px_k235, List.forall_mem_cons.mpr ⟨px_k236, List.forall_mem_cons.mpr ⟨px_k237, List.forall_mem_cons.mpr ⟨px_k238, List.forall_mem_cons.mpr ⟨px_k239, fun _ h => absurd h List.not_mem_nil⟩⟩⟩⟩⟩⟩⟩⟩⟩⟩⟩⟩⟩⟩⟩⟩
theorem px_kc15 : ∀ q ∈ ([(240, 8074), (241, 8070), (242, 8082), (243, 8086), (244, 8106), (245, 8127), (246, 8115), (247, 8123), (248, 8111), (249, 8094), (250, 8102), (251, 8131), (252, 8135), (253, 8090), (254, 8143), (255, 8139)] : List (Nat × Nat)), px_cwP q := List.forall_mem_cons.mpr ⟨px_k240, List.forall_mem_cons.mpr ⟨px_k241, List.forall_mem_cons.mpr ⟨px_k242, List.forall_mem_cons.mpr ⟨px_k243, List.forall_mem_cons.mpr ⟨px_k244, List.forall_mem_cons.mpr ⟨px_k245, List.forall_mem_cons.mpr ⟨px_k246, List.forall_mem_cons.mpr ⟨px_k247, List.forall_mem_cons.mpr ⟨px_k248, List.forall_mem_cons.mpr ⟨px_k249, List.forall_mem_cons.mpr ⟨px_k250, List.forall_mem_cons.mpr ⟨px_k251, List.forall_mem_cons.mpr ⟨px_k252, List.forall_mem_cons.mpr ⟨px_k253, List.forall_mem_cons.mpr ⟨px_k254, List.forall_mem_cons.mpr ⟨px_k255, fun _ h => absurd h List.not_mem_nil⟩⟩⟩⟩⟩⟩⟩⟩⟩⟩⟩⟩⟩⟩⟩⟩
theorem px_kc16 : ∀ q ∈ ([(256, 8167), (257, 8163), (258, 8171), (259, 8159), (260, 8175), (261, 8179), (262, 8183), (263, 8195), (264, 8191), (265, 8187), (266, 8199), (267, 8207), (268, 8203), (269, 8211), (270, 8224), (271, 8220)] : List (Nat × Nat)), px_cwP q := List.forall_mem_cons.mpr ⟨px_k256, List.forall_mem_cons.mpr ⟨px_k257, List.forall_mem_cons.mpr ⟨px_k258, List.forall_mem_cons.mpr ⟨px_k259, List.forall_mem_cons.mpr ⟨px_k260, List.forall_mem_cons.mpr ⟨px_k261, List.forall_mem_cons.mpr ⟨px_k262, List.forall_mem_cons.mpr ⟨px_k263, List.forall_mem_cons.mpr ⟨px_k264, List.forall_mem_cons.mpr ⟨px_k265, List.forall_mem_cons.mpr ⟨px_k266, List.forall_mem_cons.mpr ⟨px_k267, List.forall_mem_cons.mpr ⟨px_k268, List.forall_mem_cons.mpr ⟨px_k269, List.forall_mem_cons.mpr ⟨px_k270, List.forall_mem_cons.mpr ⟨px_k271, fun _ h => absurd h List.not_mem_nil⟩⟩⟩⟩⟩⟩⟩⟩⟩⟩⟩⟩⟩⟩⟩⟩
theorem px_kc17 : ∀ q ∈ ([(272, 8215), (273, 8228), (274, 8232), (275, 9000), (276, 8236), (277, 9008), (278, 9016), (279, 9012), (280, 9004), (281, 9020), (282, 0), (283, 4110), (284, 5177), (285, 3139), (286, 3142), (287, 1044)] : List (Nat × Nat)), px_cwP q := List.forall_mem_cons.mpr ⟨px_k272, List.forall_mem_cons.mpr ⟨px_k273, List.forall_mem_cons.mpr ⟨px_k274, List.forall_mem_cons.mpr ⟨px_k275, List.forall_mem_cons.mpr ⟨px_k276, List.forall_mem_cons.mpr ⟨px_k277, List.forall_mem_cons.mpr ⟨px_k278, List.forall_mem_cons.mpr ⟨px_k279, List.forall_mem_cons.mpr ⟨px_k280, List.forall_mem_cons.mpr ⟨px_k281, List.forall_mem_cons.mpr ⟨px_k282, List.forall_mem_cons.mpr ⟨px_k283, List.forall_mem_cons.mpr ⟨px_k284, List.forall_mem_cons.mpr ⟨px_k285, List.forall_mem_cons.mpr ⟨px_k286, List.forall_mem_cons.mpr ⟨px_k287, fun _ h => absurd h List.not_mem_nil⟩⟩⟩⟩⟩⟩⟩⟩⟩⟩⟩⟩⟩⟩⟩⟩
theorem px_kc18 : ∀ q ∈ ([(288, 5023), (289, 5026)] : List (Nat × Nat)), px_cwP q := List.forall_mem_cons.mpr ⟨px_k288, List.forall_mem_cons.mpr ⟨px_k289, fun _ h => absurd h List.not_mem_nil⟩⟩
theorem px_kall : ∀ c ∈ px_cwl, ∀ q ∈ c, px_cwP q := List.forall_mem_cons.mpr ⟨px_kc0, List.forall_mem_cons.mpr ⟨px_kc1, List.forall_mem_cons.mpr ⟨px_kc2, List.forall_mem_cons.mpr ⟨px_kc3, List.forall_mem_cons.mpr ⟨px_kc4, List.forall_mem_cons.mpr ⟨px_kc5, List.forall_mem_cons.mpr ⟨px_kc6, List.forall_mem_cons.mpr ⟨px_kc7, List.forall_mem_cons.mpr ⟨px_kc8, List.forall_mem_cons.mpr ⟨px_kc9, List.forall_mem_cons.mpr ⟨px_kc10, List.forall_mem_cons.mpr ⟨px_kc11, List.forall_mem_cons.mpr ⟨px_kc12, List.forall_mem_cons.mpr ⟨px_kc13, List.forall_mem_cons.mpr ⟨px_kc14, List.forall_mem_cons.mpr ⟨px_kc15, List.forall_mem_cons.mpr ⟨px_kc16, List.forall_mem_cons.mpr ⟨px_kc17, List.forall_mem_cons.mpr ⟨px_kc18, fun _ h => absurd h List.not_mem_nil⟩⟩⟩⟩⟩⟩⟩⟩⟩⟩⟩⟩⟩⟩⟩⟩⟩⟩⟩
