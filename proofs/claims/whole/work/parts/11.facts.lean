theorem ko_X0 : KO 0 (RX0, TX0, 14) := ⟨rfl, rfl, tb_all _ [315, 317, 319, 321, 323, 325, 327, 329, 331, 333, 335, 337, 339, 341] (by decide +kernel) (by decide +kernel), tyX0_ok, nmX0⟩
theorem ko_X1 : KO 1 (RX1, TX1, 3) := ⟨rfl, rfl, tb_all _ [139, 141, 143] (by decide +kernel) (by decide +kernel), tyX1_ok, nmX1⟩
theorem ko_X2 : KO 2 (RX2, TX2, 3) := ⟨rfl, rfl, tb_all _ [177, 179, 181] (by decide +kernel) (by decide +kernel), tyX2_ok, nmX2⟩
theorem ko_X3 : KO 3 (RX3, TX3, 4) := ⟨rfl, rfl, tb_all _ [242, 244, 246, 248] (by decide +kernel) (by decide +kernel), tyX3_ok, nmX3⟩
theorem ko_X5 : KO 4 (RX5, TX5, 10) := ⟨rfl, rfl, tb_all _ [267, 269, 271, 273, 275, 277, 279, 281, 283, 285] (by decide +kernel) (by decide +kernel), tyX5_ok, nmX5⟩
theorem ko_X6 : KO 5 (RX6, TX6, 3) := ⟨rfl, rfl, tb_all _ [149, 151, 153] (by decide +kernel) (by decide +kernel), tyX6_ok, nmX6⟩
theorem ko_X7 : KO 6 (RX7, TX7, 6) := ⟨rfl, rfl, tb_all _ [213, 215, 217, 219, 221, 223] (by decide +kernel) (by decide +kernel), tyX7_ok, nmX7⟩
theorem ko_X8 : KO 7 (RX8, TX8, 1) := ⟨rfl, rfl, tb_all _ [171] (by decide +kernel) (by decide +kernel), tyX8_ok, nmX8⟩
theorem ko_X9 : KO 8 (RX9, TX9, 2) := ⟨rfl, rfl, tb_all _ [194, 196] (by decide +kernel) (by decide +kernel), tyX9_ok, nmX9⟩
theorem ko_X10 : KO 9 (RX10, TX10, 2) := ⟨rfl, rfl, tb_all _ [106, 108] (by decide +kernel) (by decide +kernel), tyX10_ok, nmX10⟩
theorem ko_X11 : KO 10 (RX11, TX11, 13) := ⟨rfl, rfl, tb_all _ [357, 359, 361, 363, 365, 367, 369, 371, 373, 375, 377, 379, 381] (by decide +kernel) (by decide +kernel), tyX11_ok, nmX11⟩
theorem ko_X12 : KO 11 (RX12, TX12, 43) := ⟨rfl, rfl, tb_all _ [1229, 1231, 1233, 1235, 1237, 1239, 1241, 1243, 1245, 1247, 1249, 1251, 1253, 1255, 1257, 1259, 1261, 1263, 1265, 1267, 1269, 1271, 1273, 1275, 1277, 1279, 1281, 1283, 1285, 1287, 1289, 1291, 1293, 1295, 1297, 1299, 1301, 1303, 1305, 1307, 1309, 1311, 1313] (by decide +kernel) (by decide +kernel), tyX12_ok, nmX12⟩
theorem fo_X0_12 : FO RX0 12 0 0 true := ⟨_, ko_X0, by decide, Or.inl (tb_in 299 (by decide +kernel) (by decide +kernel)), rfl, rfl⟩
theorem fo_X0_21 : FO RX0 21 0 2 true := ⟨_, ko_X0, by decide, Or.inl (tb_in 302 (by decide +kernel) (by decide +kernel)), rfl, rfl⟩
theorem fo_X0_25 : FO RX0 25 0 3 true := ⟨_, ko_X0, by decide, Or.inl (tb_in 303 (by decide +kernel) (by decide +kernel)), rfl, rfl⟩
theorem fo_X0_28 : FO RX0 28 0 4 true := ⟨_, ko_X0, by decide, Or.inl (tb_in 304 (by decide +kernel) (by decide +kernel)), rfl, rfl⟩
theorem fo_X0_31 : FO RX0 31 0 5 false := ⟨_, ko_X0, by decide, Or.inl (tb_in 305 (by decide +kernel) (by decide +kernel)), rfl, rfl⟩
theorem fo_X0_35 : FO RX0 35 0 6 true := ⟨_, ko_X0, by decide, Or.inl (tb_in 307 (by decide +kernel) (by decide +kernel)), rfl, rfl⟩
theorem fo_X0_39 : FO RX0 39 0 7 false := ⟨_, ko_X0, by decide, Or.inl (tb_in 308 (by decide +kernel) (by decide +kernel)), rfl, rfl⟩
theorem fo_X0_43 : FO RX0 43 0 8 true := ⟨_, ko_X0, by decide, Or.inl (tb_in 309 (by decide +kernel) (by decide +kernel)), rfl, rfl⟩
theorem fo_X0_46 : FO RX0 46 0 9 true := ⟨_, ko_X0, by decide, Or.inl (tb_in 310 (by decide +kernel) (by decide +kernel)), rfl, rfl⟩
theorem fo_X0_49 : FO RX0 49 0 10 true := ⟨_, ko_X0, by decide, Or.inl (tb_in 311 (by decide +kernel) (by decide +kernel)), rfl, rfl⟩
theorem fo_X0_53 : FO RX0 53 0 11 true := ⟨_, ko_X0, by decide, Or.inl (tb_in 312 (by decide +kernel) (by decide +kernel)), rfl, rfl⟩
theorem fo_X0_56 : FO RX0 56 0 12 true := ⟨_, ko_X0, by decide, Or.inl (tb_in 313 (by decide +kernel) (by decide +kernel)), rfl, rfl⟩
theorem fo_X0_59 : FO RX0 59 0 13 true := ⟨_, ko_X0, by decide, Or.inl (tb_in 314 (by decide +kernel) (by decide +kernel)), rfl, rfl⟩
theorem fo_X0_62 : FO RX0 62 0 1 true := ⟨_, ko_X0, by decide, Or.inl (tb_in 301 (by decide +kernel) (by decide +kernel)), rfl, rfl⟩
theorem fo_X0_66 : FO RX0 66 1 2 false := ⟨_, ko_X1, by decide, Or.inr ⟨_, nb_in (w := .fieldLinkNest _ _ _ _ _ "LanguageAtoms") 138 (by decide +kernel) rfl⟩, rfl, rfl⟩
theorem fo_X0_98 : FO RX0 98 9 0 false := ⟨_, ko_X10, by decide, Or.inr ⟨_, nb_in (w := .fieldLinkNest _ _ _ _ _ "LanguageAtoms") 100 (by decide +kernel) rfl⟩, rfl, rfl⟩
theorem fo_X0_103 : FO RX0 103 9 1 true := ⟨_, ko_X10, by decide, Or.inr ⟨_, nb_in (w := .fieldLinkNest _ _ _ _ _ "LanguageAtoms") 104 (by decide +kernel) rfl⟩, rfl, rfl⟩
theorem fo_X0_132 : FO RX0 132 1 0 false := ⟨_, ko_X1, by decide, Or.inr ⟨_, nb_in (w := .fieldLinkNest _ _ _ _ _ "LanguageAtoms") 133 (by decide +kernel) rfl⟩, rfl, rfl⟩
theorem fo_X0_139 : FO RX0 139 3 0 false := ⟨_, ko_X3, by decide, Or.inr ⟨_, nb_in (w := .fieldLinkNest _ _ _ _ _ "LanguageAtoms") 237 (by decide +kernel) rfl⟩, rfl, rfl⟩
theorem fo_X0_156 : FO RX0 156 3 1 true := ⟨_, ko_X3, by decide, Or.inr ⟨_, nb_in (w := .fieldLinkNest _ _ _ _ _ "LanguageAtoms") 239 (by decide +kernel) rfl⟩, rfl, rfl⟩
theorem fo_X1_9 : FO RX1 9 1 0 false := ⟨_, ko_X1, by decide, Or.inl (tb_in 129 (by decide +kernel) (by decide +kernel)), rfl, rfl⟩
theorem fo_X1_15 : FO RX1 15 1 1 true := ⟨_, ko_X1, by decide, Or.inl (tb_in 134 (by decide +kernel) (by decide +kernel)), rfl, rfl⟩
theorem fo_X1_19 : FO RX1 19 1 2 false := ⟨_, ko_X1, by decide, Or.inl (tb_in 135 (by decide +kernel) (by decide +kernel)), rfl, rfl⟩
theorem fo_X1_28 : FO RX1 28 9 0 false := ⟨_, ko_X10, by decide, Or.inr ⟨_, nb_in (w := .fieldLinkNest _ _ _ _ _ "LanguageAtoms") 97 (by decide +kernel) rfl⟩, rfl, rfl⟩
theorem fo_X1_33 : FO RX1 33 9 1 true := ⟨_, ko_X10, by decide, Or.inr ⟨_, nb_in (w := .fieldLinkNest _ _ _ _ _ "LanguageAtoms") 102 (by decide +kernel) rfl⟩, rfl, rfl⟩
theorem fo_X10_9 : FO RX10 9 9 0 false := ⟨_, ko_X10, by decide, Or.inl (tb_in 96 (by decide +kernel) (by decide +kernel)), rfl, rfl⟩
theorem fo_X10_15 : FO RX10 15 9 1 true := ⟨_, ko_X10, by decide, Or.inl (tb_in 101 (by decide +kernel) (by decide +kernel)), rfl, rfl⟩
theorem fo_X11_11 : FO RX11 11 10 0 true := ⟨_, ko_X11, by decide, Or.inl (tb_in 344 (by decide +kernel) (by decide +kernel)), rfl, rfl⟩
theorem fo_X11_15 : FO RX11 15 10 1 true := ⟨_, ko_X11, by decide, Or.inl (tb_in 345 (by decide +kernel) (by decide +kernel)), rfl, rfl⟩
theorem fo_X11_21 : FO RX11 21 10 2 true := ⟨_, ko_X11, by decide, Or.inl (tb_in 346 (by decide +kernel) (by decide +kernel)), rfl, rfl⟩
theorem fo_X11_25 : FO RX11 25 10 3 true := ⟨_, ko_X11, by decide, Or.inl (tb_in 347 (by decide +kernel) (by decide +kernel)), rfl, rfl⟩
theorem fo_X11_28 : FO RX11 28 10 4 false := ⟨_, ko_X11, by decide, Or.inl (tb_in 348 (by decide +kernel) (by decide +kernel)), rfl, rfl⟩
theorem fo_X11_34 : FO RX11 34 10 5 true := ⟨_, ko_X11, by decide, Or.inl (tb_in 349 (by decide +kernel) (by decide +kernel)), rfl, rfl⟩
theorem fo_X11_41 : FO RX11 41 10 7 true := ⟨_, ko_X11, by decide, Or.inl (tb_in 351 (by decide +kernel) (by decide +kernel)), rfl, rfl⟩
theorem fo_X11_48 : FO RX11 48 10 8 true := ⟨_, ko_X11, by decide, Or.inl (tb_in 352 (by decide +kernel) (by decide +kernel)), rfl, rfl⟩
theorem fo_X11_55 : FO RX11 55 10 9 true := ⟨_, ko_X11, by decide, Or.inl (tb_in 353 (by decide +kernel) (by decide +kernel)), rfl, rfl⟩
theorem fo_X11_60 : FO RX11 60 10 11 true := ⟨_, ko_X11, by decide, Or.inl (tb_in 355 (by decide +kernel) (by decide +kernel)), rfl, rfl⟩
theorem fo_X11_65 : FO RX11 65 10 12 true := ⟨_, ko_X11, by decide, Or.inl (tb_in 356 (by decide +kernel) (by decide +kernel)), rfl, rfl⟩
theorem fo_X11_77 : FO RX11 77 10 6 true := ⟨_, ko_X11, by decide, Or.inl (tb_in 350 (by decide +kernel) (by decide +kernel)), rfl, rfl⟩
theorem fo_X11_84 : FO RX11 84 10 10 true := ⟨_, ko_X11, by decide, Or.inl (tb_in 354 (by decide +kernel) (by decide +kernel)), rfl, rfl⟩
theorem fo_X11_117 : FO RX11 117 1 0 false := ⟨_, ko_X1, by decide, Or.inr ⟨_, nb_in (w := .fieldLinkNest _ _ _ _ _ "LanguageAtoms") 132 (by decide +kernel) rfl⟩, rfl, rfl⟩
theorem fo_X11_131 : FO RX11 131 9 0 false := ⟨_, ko_X10, by decide, Or.inr ⟨_, nb_in (w := .fieldLinkNest _ _ _ _ _ "LanguageAtoms") 99 (by decide +kernel) rfl⟩, rfl, rfl⟩
theorem fo_X11_143 : FO RX11 143 9 1 true := ⟨_, ko_X10, by decide, Or.inr ⟨_, nb_in (w := .fieldLinkNest _ _ _ _ _ "LanguageAtoms") 105 (by decide +kernel) rfl⟩, rfl, rfl⟩
theorem fo_X11_162 : FO RX11 162 0 5 false := ⟨_, ko_X0, by decide, Or.inr ⟨_, nb_in (w := .fieldLinkNest _ _ _ _ _ "LanguageAtoms") 306 (by decide +kernel) rfl⟩, rfl, rfl⟩
theorem fo_X11_251 : FO RX11 251 6 3 true := ⟨_, ko_X7, by decide, Or.inr ⟨_, nb_in (w := .fieldLinkNest _ _ _ _ _ "LanguageAtoms") 210 (by decide +kernel) rfl⟩, rfl, rfl⟩
theorem fo_X11_260 : FO RX11 260 6 1 false := ⟨_, ko_X7, by decide, Or.inr ⟨_, nb_in (w := .fieldLinkNest _ _ _ _ _ "LanguageAtoms") 207 (by decide +kernel) rfl⟩, rfl, rfl⟩
theorem fo_X11_300 : FO RX11 300 0 0 true := ⟨_, ko_X0, by decide, Or.inr ⟨_, nb_in (w := .fieldLinkNest _ _ _ _ _ "LanguageAtoms") 300 (by decide +kernel) rfl⟩, rfl, rfl⟩
theorem fo_X12_7 : FO RX12 7 11 1 true := ⟨_, ko_X12, by decide, Or.inl (tb_in 1187 (by decide +kernel) (by decide +kernel)), rfl, rfl⟩
theorem fo_X12_13 : FO RX12 13 11 2 true := ⟨_, ko_X12, by decide, Or.inl (tb_in 1188 (by decide +kernel) (by decide +kernel)), rfl, rfl⟩
theorem fo_X12_16 : FO RX12 16 11 3 true := ⟨_, ko_X12, by decide, Or.inl (tb_in 1189 (by decide +kernel) (by decide +kernel)), rfl, rfl⟩
theorem fo_X12_20 : FO RX12 20 11 5 true := ⟨_, ko_X12, by decide, Or.inl (tb_in 1191 (by decide +kernel) (by decide +kernel)), rfl, rfl⟩
theorem fo_X12_23 : FO RX12 23 11 6 true := ⟨_, ko_X12, by decide, Or.inl (tb_in 1192 (by decide +kernel) (by decide +kernel)), rfl, rfl⟩
theorem fo_X12_26 : FO RX12 26 11 7 true := ⟨_, ko_X12, by decide, Or.inl (tb_in 1193 (by decide +kernel) (by decide +kernel)), rfl, rfl⟩
theorem fo_X12_29 : FO RX12 29 11 8 true := ⟨_, ko_X12, by decide, Or.inl (tb_in 1194 (by decide +kernel) (by decide +kernel)), rfl, rfl⟩
theorem fo_X12_33 : FO RX12 33 11 9 true := ⟨_, ko_X12, by decide, Or.inl (tb_in 1195 (by decide +kernel) (by decide +kernel)), rfl, rfl⟩
theorem fo_X12_37 : FO RX12 37 11 11 true := ⟨_, ko_X12, by decide, Or.inl (tb_in 1197 (by decide +kernel) (by decide +kernel)), rfl, rfl⟩
theorem fo_X12_40 : FO RX12 40 11 12 true := ⟨_, ko_X12, by decide, Or.inl (tb_in 1198 (by decide +kernel) (by decide +kernel)), rfl, rfl⟩
theorem fo_X12_43 : FO RX12 43 11 13 true := ⟨_, ko_X12, by decide, Or.inl (tb_in 1199 (by decide +kernel) (by decide +kernel)), rfl, rfl⟩
theorem fo_X12_46 : FO RX12 46 11 15 true := ⟨_, ko_X12, by decide, Or.inl (tb_in 1201 (by decide +kernel) (by decide +kernel)), rfl, rfl⟩
theorem fo_X12_49 : FO RX12 49 11 18 true := ⟨_, ko_X12, by decide, Or.inl (tb_in 1204 (by decide +kernel) (by decide +kernel)), rfl, rfl⟩
theorem fo_X12_53 : FO RX12 53 11 19 true := ⟨_, ko_X12, by decide, Or.inl (tb_in 1205 (by decide +kernel) (by decide +kernel)), rfl, rfl⟩
theorem fo_X12_56 : FO RX12 56 11 20 true := ⟨_, ko_X12, by decide, Or.inl (tb_in 1206 (by decide +kernel) (by decide +kernel)), rfl, rfl⟩
theorem fo_X12_59 : FO RX12 59 11 25 true := ⟨_, ko_X12, by decide, Or.inl (tb_in 1211 (by decide +kernel) (by decide +kernel)), rfl, rfl⟩
theorem fo_X12_62 : FO RX12 62 11 26 true := ⟨_, ko_X12, by decide, Or.inl (tb_in 1212 (by decide +kernel) (by decide +kernel)), rfl, rfl⟩
theorem fo_X12_65 : FO RX12 65 11 27 true := ⟨_, ko_X12, by decide, Or.inl (tb_in 1213 (by decide +kernel) (by decide +kernel)), rfl, rfl⟩
theorem fo_X12_68 : FO RX12 68 11 28 true := ⟨_, ko_X12, by decide, Or.inl (tb_in 1214 (by decide +kernel) (by decide +kernel)), rfl, rfl⟩
theorem fo_X12_71 : FO RX12 71 11 31 true := ⟨_, ko_X12, by decide, Or.inl (tb_in 1217 (by decide +kernel) (by decide +kernel)), rfl, rfl⟩
theorem fo_X12_74 : FO RX12 74 11 32 true := ⟨_, ko_X12, by decide, Or.inl (tb_in 1218 (by decide +kernel) (by decide +kernel)), rfl, rfl⟩
theorem fo_X12_77 : FO RX12 77 11 34 true := ⟨_, ko_X12, by decide, Or.inl (tb_in 1220 (by decide +kernel) (by decide +kernel)), rfl, rfl⟩
theorem fo_X12_80 : FO RX12 80 11 35 true := ⟨_, ko_X12, by decide, Or.inl (tb_in 1221 (by decide +kernel) (by decide +kernel)), rfl, rfl⟩
theorem fo_X12_83 : FO RX12 83 11 37 true := ⟨_, ko_X12, by decide, Or.inl (tb_in 1223 (by decide +kernel) (by decide +kernel)), rfl, rfl⟩
theorem fo_X12_86 : FO RX12 86 11 38 true := ⟨_, ko_X12, by decide, Or.inl (tb_in 1224 (by decide +kernel) (by decide +kernel)), rfl, rfl⟩
theorem fo_X12_89 : FO RX12 89 11 39 true := ⟨_, ko_X12, by decide, Or.inl (tb_in 1225 (by decide +kernel) (by decide +kernel)), rfl, rfl⟩
theorem fo_X12_92 : FO RX12 92 11 41 true := ⟨_, ko_X12, by decide, Or.inl (tb_in 1227 (by decide +kernel) (by decide +kernel)), rfl, rfl⟩
theorem fo_X12_95 : FO RX12 95 11 42 true := ⟨_, ko_X12, by decide, Or.inl (tb_in 1228 (by decide +kernel) (by decide +kernel)), rfl, rfl⟩
theorem fo_X12_98 : FO RX12 98 11 0 false := ⟨_, ko_X12, by decide, Or.inl (tb_in 1186 (by decide +kernel) (by decide +kernel)), rfl, rfl⟩
theorem fo_X12_139 : FO RX12 139 11 16 false := ⟨_, ko_X12, by decide, Or.inl (tb_in 1202 (by decide +kernel) (by decide +kernel)), rfl, rfl⟩
theorem fo_X12_146 : FO RX12 146 11 4 false := ⟨_, ko_X12, by decide, Or.inl (tb_in 1190 (by decide +kernel) (by decide +kernel)), rfl, rfl⟩
theorem fo_X12_153 : FO RX12 153 11 17 false := ⟨_, ko_X12, by decide, Or.inl (tb_in 1203 (by decide +kernel) (by decide +kernel)), rfl, rfl⟩
theorem fo_X12_156 : FO RX12 156 11 21 false := ⟨_, ko_X12, by decide, Or.inl (tb_in 1207 (by decide +kernel) (by decide +kernel)), rfl, rfl⟩
theorem fo_X12_169 : FO RX12 169 11 24 false := ⟨_, ko_X12, by decide, Or.inl (tb_in 1210 (by decide +kernel) (by decide +kernel)), rfl, rfl⟩
theorem fo_X12_173 : FO RX12 173 11 22 false := ⟨_, ko_X12, by decide, Or.inl (tb_in 1208 (by decide +kernel) (by decide +kernel)), rfl, rfl⟩
theorem fo_X12_178 : FO RX12 178 11 23 false := ⟨_, ko_X12, by decide, Or.inl (tb_in 1209 (by decide +kernel) (by decide +kernel)), rfl, rfl⟩
theorem fo_X12_195 : FO RX12 195 11 33 false := ⟨_, ko_X12, by decide, Or.inl (tb_in 1219 (by decide +kernel) (by decide +kernel)), rfl, rfl⟩
theorem fo_X12_202 : FO RX12 202 11 36 false := ⟨_, ko_X12, by decide, Or.inl (tb_in 1222 (by decide +kernel) (by decide +kernel)), rfl, rfl⟩
theorem fo_X12_222 : FO RX12 222 11 29 false := ⟨_, ko_X12, by decide, Or.inl (tb_in 1215 (by decide +kernel) (by decide +kernel)), rfl, rfl⟩
theorem fo_X12_238 : FO RX12 238 11 30 false := ⟨_, ko_X12, by decide, Or.inl (tb_in 1216 (by decide +kernel) (by decide +kernel)), rfl, rfl⟩
theorem fo_X12_268 : FO RX12 268 11 40 false := ⟨_, ko_X12, by decide, Or.inl (tb_in 1226 (by decide +kernel) (by decide +kernel)), rfl, rfl⟩
theorem fo_X12_286 : FO RX12 286 11 10 false := ⟨_, ko_X12, by decide, Or.inl (tb_in 1196 (by decide +kernel) (by decide +kernel)), rfl, rfl⟩
theorem fo_X12_290 : FO RX12 290 11 14 false := ⟨_, ko_X12, by decide, Or.inl (tb_in 1200 (by decide +kernel) (by decide +kernel)), rfl, rfl⟩
theorem fo_X2_12 : FO RX2 12 2 0 false := ⟨_, ko_X2, by decide, Or.inl (tb_in 174 (by decide +kernel) (by decide +kernel)), rfl, rfl⟩
theorem fo_X2_18 : FO RX2 18 2 1 false := ⟨_, ko_X2, by decide, Or.inl (tb_in 175 (by decide +kernel) (by decide +kernel)), rfl, rfl⟩
theorem fo_X2_25 : FO RX2 25 2 2 true := ⟨_, ko_X2, by decide, Or.inl (tb_in 176 (by decide +kernel) (by decide +kernel)), rfl, rfl⟩
theorem fo_X2_29 : FO RX2 29 1 2 false := ⟨_, ko_X1, by decide, Or.inr ⟨_, nb_in (w := .fieldLinkNest _ _ _ _ _ "LanguageAtoms") 137 (by decide +kernel) rfl⟩, rfl, rfl⟩
theorem fo_X3_9 : FO RX3 9 3 0 false := ⟨_, ko_X3, by decide, Or.inl (tb_in 235 (by decide +kernel) (by decide +kernel)), rfl, rfl⟩
theorem fo_X3_15 : FO RX3 15 3 1 true := ⟨_, ko_X3, by decide, Or.inl (tb_in 238 (by decide +kernel) (by decide +kernel)), rfl, rfl⟩
theorem fo_X3_19 : FO RX3 19 3 2 true := ⟨_, ko_X3, by decide, Or.inl (tb_in 240 (by decide +kernel) (by decide +kernel)), rfl, rfl⟩
theorem fo_X3_23 : FO RX3 23 3 3 false := ⟨_, ko_X3, by decide, Or.inl (tb_in 241 (by decide +kernel) (by decide +kernel)), rfl, rfl⟩
theorem fo_X5_9 : FO RX5 9 4 1 false := ⟨_, ko_X5, by decide, Or.inl (tb_in 258 (by decide +kernel) (by decide +kernel)), rfl, rfl⟩
theorem fo_X5_15 : FO RX5 15 4 2 true := ⟨_, ko_X5, by decide, Or.inl (tb_in 259 (by decide +kernel) (by decide +kernel)), rfl, rfl⟩
theorem fo_X5_19 : FO RX5 19 4 3 true := ⟨_, ko_X5, by decide, Or.inl (tb_in 260 (by decide +kernel) (by decide +kernel)), rfl, rfl⟩
theorem fo_X5_22 : FO RX5 22 4 4 true := ⟨_, ko_X5, by decide, Or.inl (tb_in 261 (by decide +kernel) (by decide +kernel)), rfl, rfl⟩
theorem fo_X5_25 : FO RX5 25 4 5 true := ⟨_, ko_X5, by decide, Or.inl (tb_in 262 (by decide +kernel) (by decide +kernel)), rfl, rfl⟩
theorem fo_X5_28 : FO RX5 28 4 6 true := ⟨_, ko_X5, by decide, Or.inl (tb_in 263 (by decide +kernel) (by decide +kernel)), rfl, rfl⟩
theorem fo_X5_32 : FO RX5 32 4 7 false := ⟨_, ko_X5, by decide, Or.inl (tb_in 264 (by decide +kernel) (by decide +kernel)), rfl, rfl⟩
theorem fo_X5_35 : FO RX5 35 4 8 false := ⟨_, ko_X5, by decide, Or.inl (tb_in 265 (by decide +kernel) (by decide +kernel)), rfl, rfl⟩
theorem fo_X5_38 : FO RX5 38 4 9 false := ⟨_, ko_X5, by decide, Or.inl (tb_in 266 (by decide +kernel) (by decide +kernel)), rfl, rfl⟩
theorem fo_X5_41 : FO RX5 41 4 0 true := ⟨_, ko_X5, by decide, Or.inl (tb_in 257 (by decide +kernel) (by decide +kernel)), rfl, rfl⟩
theorem fo_X5_88 : FO RX5 88 3 0 false := ⟨_, ko_X3, by decide, Or.inr ⟨_, nb_in (w := .fieldLinkNest _ _ _ _ _ "LanguageAtoms") 236 (by decide +kernel) rfl⟩, rfl, rfl⟩
theorem fo_X5_106 : FO RX5 106 9 0 false := ⟨_, ko_X10, by decide, Or.inr ⟨_, nb_in (w := .fieldLinkNest _ _ _ _ _ "LanguageAtoms") 98 (by decide +kernel) rfl⟩, rfl, rfl⟩
theorem fo_X5_111 : FO RX5 111 9 1 true := ⟨_, ko_X10, by decide, Or.inr ⟨_, nb_in (w := .fieldLinkNest _ _ _ _ _ "LanguageAtoms") 103 (by decide +kernel) rfl⟩, rfl, rfl⟩
theorem fo_X6_9 : FO RX6 9 5 0 false := ⟨_, ko_X6, by decide, Or.inl (tb_in 146 (by decide +kernel) (by decide +kernel)), rfl, rfl⟩
theorem fo_X6_18 : FO RX6 18 5 1 false := ⟨_, ko_X6, by decide, Or.inl (tb_in 147 (by decide +kernel) (by decide +kernel)), rfl, rfl⟩
theorem fo_X6_22 : FO RX6 22 5 2 false := ⟨_, ko_X6, by decide, Or.inl (tb_in 148 (by decide +kernel) (by decide +kernel)), rfl, rfl⟩
theorem fo_X7_9 : FO RX7 9 6 0 false := ⟨_, ko_X7, by decide, Or.inl (tb_in 205 (by decide +kernel) (by decide +kernel)), rfl, rfl⟩
theorem fo_X7_15 : FO RX7 15 6 1 false := ⟨_, ko_X7, by decide, Or.inl (tb_in 206 (by decide +kernel) (by decide +kernel)), rfl, rfl⟩
theorem fo_X7_19 : FO RX7 19 6 2 true := ⟨_, ko_X7, by decide, Or.inl (tb_in 208 (by decide +kernel) (by decide +kernel)), rfl, rfl⟩
theorem fo_X7_23 : FO RX7 23 6 3 true := ⟨_, ko_X7, by decide, Or.inl (tb_in 209 (by decide +kernel) (by decide +kernel)), rfl, rfl⟩
theorem fo_X7_27 : FO RX7 27 6 4 false := ⟨_, ko_X7, by decide, Or.inl (tb_in 211 (by decide +kernel) (by decide +kernel)), rfl, rfl⟩
theorem fo_X7_31 : FO RX7 31 6 5 false := ⟨_, ko_X7, by decide, Or.inl (tb_in 212 (by decide +kernel) (by decide +kernel)), rfl, rfl⟩
theorem fo_X7_34 : FO RX7 34 1 0 false := ⟨_, ko_X1, by decide, Or.inr ⟨_, nb_in (w := .fieldLinkNest _ _ _ _ _ "LanguageAtoms") 130 (by decide +kernel) rfl⟩, rfl, rfl⟩
theorem fo_X8_9 : FO RX8 9 7 0 true := ⟨_, ko_X8, by decide, Or.inl (tb_in 170 (by decide +kernel) (by decide +kernel)), rfl, rfl⟩
theorem fo_X8_15 : FO RX8 15 1 0 false := ⟨_, ko_X1, by decide, Or.inr ⟨_, nb_in (w := .fieldLinkNest _ _ _ _ _ "LanguageAtoms") 131 (by decide +kernel) rfl⟩, rfl, rfl⟩
theorem fo_X9_9 : FO RX9 9 8 0 false := ⟨_, ko_X9, by decide, Or.inl (tb_in 192 (by decide +kernel) (by decide +kernel)), rfl, rfl⟩
theorem fo_X9_18 : FO RX9 18 8 1 true := ⟨_, ko_X9, by decide, Or.inl (tb_in 193 (by decide +kernel) (by decide +kernel)), rfl, rfl⟩
theorem fo_X9_22 : FO RX9 22 1 2 false := ⟨_, ko_X1, by decide, Or.inr ⟨_, nb_in (w := .fieldLinkNest _ _ _ _ _ "LanguageAtoms") 136 (by decide +kernel) rfl⟩, rfl, rfl⟩
abbrev MX0_init : Me := (yX0_init, cX0_init, 2, none, { frames := 3, cells := 0, slots := 0, locals := 80 })
abbrev MX0_codeBound : Me := (yX0_codeBound, cX0_codeBound, 1, some .int, { frames := 1, cells := 0, slots := 0, locals := 40 })
abbrev MX0_startCode : Me := (yX0_startCode, cX0_startCode, 1, some .int, { frames := 1, cells := 0, slots := 0, locals := 40 })
abbrev MX0_follow : Me := (yX0_follow, cX0_follow, 3, some .int, { frames := 2, cells := 0, slots := 0, locals := 62 })
abbrev MX0_isAccepting : Me := (yX0_isAccepting, cX0_isAccepting, 2, some .boolean, { frames := 1, cells := 0, slots := 0, locals := 40 })
abbrev MX0_find : Me := (yX0_find, cX0_find, 6, none, { frames := 4, cells := 0, slots := 0, locals := 109 })
abbrev MX0_addAtom : Me := (yX0_addAtom, cX0_addAtom, 4, none, { frames := 2, cells := 0, slots := 0, locals := 62 })
abbrev MX0_holds : Me := (yX0_holds, cX0_holds, 3, some .boolean, { frames := 1, cells := 0, slots := 0, locals := 40 })
abbrev MX0_numberOf : Me := (yX0_numberOf, cX0_numberOf, 2, some .int, { frames := 2, cells := 0, slots := 0, locals := 61 })
abbrev MX0_setOf : Me := (yX0_setOf, cX0_setOf, 4, some .int, { frames := 2, cells := 0, slots := 0, locals := 62 })
abbrev MX0_setOfWord : Me := (yX0_setOfWord, cX0_setOfWord, 4, some .int, { frames := 3, cells := 0, slots := 0, locals := 84 })
abbrev MX0_targetsOf : Me := (yX0_targetsOf, cX0_targetsOf, 6, some .long, { frames := 3, cells := 0, slots := 0, locals := 84 })
abbrev MX0_initialOnes : Me := (yX0_initialOnes, cX0_initialOnes, 4, some .long, { frames := 3, cells := 0, slots := 0, locals := 82 })
abbrev MX0_firstWordLength : Me := (yX0_firstWordLength, cX0_firstWordLength, 4, some .int, { frames := 2, cells := 0, slots := 0, locals := 60 })
abbrev MX0_writeFirstWord : Me := (yX0_writeFirstWord, cX0_writeFirstWord, 6, none, { frames := 3, cells := 0, slots := 0, locals := 83 })
abbrev MX0_countQuotients : Me := (yX0_countQuotients, cX0_countQuotients, 6, some .int, { frames := 4, cells := 0, slots := 0, locals := 111 })
abbrev MX0_addPair : Me := (yX0_addPair, cX0_addPair, 4, none, { frames := 3, cells := 0, slots := 0, locals := 88 })
abbrev MX0_fillLanguages : Me := (yX0_fillLanguages, cX0_fillLanguages, 4, none, { frames := 2, cells := 0, slots := 0, locals := 64 })
abbrev MX0_atomsWith : Me := (yX0_atomsWith, cX0_atomsWith, 5, some .long, { frames := 1, cells := 0, slots := 0, locals := 40 })
abbrev MX0_writeUnion : Me := (yX0_writeUnion, cX0_writeUnion, 9, some .int, { frames := 4, cells := 0, slots := 0, locals := 110 })
abbrev MX0_languageOf : Me := (yX0_languageOf, cX0_languageOf, 6, some .long, { frames := 3, cells := 0, slots := 0, locals := 82 })
abbrev MX0_quotient : Me := (yX0_quotient, cX0_quotient, 7, some .long, { frames := 3, cells := 0, slots := 0, locals := 84 })
abbrev MX0_determine : Me := (yX0_determine, cX0_determine, 6, some .boolean, { frames := 4, cells := 0, slots := 0, locals := 109 })
abbrev MX1_init : Me := (yX1_init, cX1_init, 1, none, { frames := 2, cells := 0, slots := 0, locals := 60 })
abbrev MX1_codeBound : Me := (yX1_codeBound, cX1_codeBound, 1, some .int, { frames := 1, cells := 0, slots := 0, locals := 40 })
abbrev MX1_startCode : Me := (yX1_startCode, cX1_startCode, 1, some .int, { frames := 1, cells := 0, slots := 0, locals := 40 })
abbrev MX1_follow : Me := (yX1_follow, cX1_follow, 3, some .int, { frames := 1, cells := 0, slots := 0, locals := 40 })
abbrev MX1_isAccepting : Me := (yX1_isAccepting, cX1_isAccepting, 2, some .boolean, { frames := 1, cells := 0, slots := 0, locals := 40 })
abbrev MX1_clear : Me := (yX1_clear, cX1_clear, 3, none, { frames := 1, cells := 0, slots := 0, locals := 40 })
abbrev MX1_lead : Me := (yX1_lead, cX1_lead, 4, none, { frames := 1, cells := 0, slots := 0, locals := 40 })
abbrev MX1_mark : Me := (yX1_mark, cX1_mark, 3, none, { frames := 1, cells := 0, slots := 0, locals := 40 })
abbrev MX1_copyFrom : Me := (yX1_copyFrom, cX1_copyFrom, 2, none, { frames := 1, cells := 0, slots := 0, locals := 40 })
abbrev MX1_stateAfter : Me := (yX1_stateAfter, cX1_stateAfter, 4, some .int, { frames := 2, cells := 0, slots := 0, locals := 62 })
abbrev MX1_drawAll : Me := (yX1_drawAll, cX1_drawAll, 4, none, { frames := 2, cells := 0, slots := 0, locals := 62 })
abbrev MX1_nextValue : Me := (yX1_nextValue, cX1_nextValue, 1, some .int, { frames := 1, cells := 0, slots := 0, locals := 40 })
abbrev MX1_draw : Me := (yX1_draw, cX1_draw, 2, some .int, { frames := 1, cells := 0, slots := 0, locals := 40 })
abbrev MX1_becomeWitness : Me := (yX1_becomeWitness, cX1_becomeWitness, 4, none, { frames := 2, cells := 0, slots := 0, locals := 63 })
abbrev MX2_init : Me := (yX2_init, cX2_init, 1, none, { frames := 3, cells := 0, slots := 0, locals := 80 })
abbrev MX2_prepare : Me := (yX2_prepare, cX2_prepare, 3, none, { frames := 4, cells := 0, slots := 0, locals := 109 })
abbrev MX2_codeBound : Me := (yX2_codeBound, cX2_codeBound, 1, some .int, { frames := 1, cells := 0, slots := 0, locals := 40 })
abbrev MX2_startCode : Me := (yX2_startCode, cX2_startCode, 1, some .int, { frames := 3, cells := 0, slots := 0, locals := 83 })
abbrev MX2_follow : Me := (yX2_follow, cX2_follow, 3, some .int, { frames := 3, cells := 0, slots := 0, locals := 83 })
abbrev MX2_isAccepting : Me := (yX2_isAccepting, cX2_isAccepting, 2, some .boolean, { frames := 1, cells := 0, slots := 0, locals := 40 })
abbrev MX2_enter : Me := (yX2_enter, cX2_enter, 3, some .int, { frames := 2, cells := 0, slots := 0, locals := 61 })
abbrev MX3_init : Me := (yX3_init, cX3_init, 1, none, { frames := 1, cells := 0, slots := 0, locals := 40 })
abbrev MX3_begin : Me := (yX3_begin, cX3_begin, 4, none, { frames := 1, cells := 0, slots := 0, locals := 40 })
abbrev MX3_place : Me := (yX3_place, cX3_place, 6, some .int, { frames := 2, cells := 0, slots := 0, locals := 63 })
abbrev MX3_insert : Me := (yX3_insert, cX3_insert, 4, some .int, { frames := 1, cells := 0, slots := 0, locals := 40 })
abbrev MX4_init : Me := (yX4_init, cX4_init, 1, none, { frames := 1, cells := 0, slots := 0, locals := 40 })
abbrev MX5_init : Me := (yX5_init, cX5_init, 2, none, { frames := 1, cells := 0, slots := 0, locals := 40 })
abbrev MX5_run : Me := (yX5_run, cX5_run, 4, some .int, { frames := 5, cells := 0, slots := 0, locals := 130 })
abbrev MX5_explore : Me := (yX5_explore, cX5_explore, 6, none, { frames := 4, cells := 0, slots := 0, locals := 105 })
abbrev MX5_numberOf : Me := (yX5_numberOf, cX5_numberOf, 3, some .int, { frames := 1, cells := 0, slots := 0, locals := 40 })
abbrev MX5_splitByAcceptance : Me := (yX5_splitByAcceptance, cX5_splitByAcceptance, 3, none, { frames := 1, cells := 0, slots := 0, locals := 40 })
abbrev MX5_splitByTargets : Me := (yX5_splitByTargets, cX5_splitByTargets, 5, some .boolean, { frames := 3, cells := 0, slots := 0, locals := 88 })
abbrev MX5_storeIn : Me := (yX5_storeIn, cX5_storeIn, 5, none, { frames := 2, cells := 0, slots := 0, locals := 63 })
abbrev MX5_firstAccepting : Me := (yX5_firstAccepting, cX5_firstAccepting, 2, some .int, { frames := 1, cells := 0, slots := 0, locals := 40 })
abbrev MX5_firstWordLength : Me := (yX5_firstWordLength, cX5_firstWordLength, 4, some .int, { frames := 1, cells := 0, slots := 0, locals := 40 })
abbrev MX5_writeFirstWord : Me := (yX5_writeFirstWord, cX5_writeFirstWord, 5, none, { frames := 2, cells := 0, slots := 0, locals := 63 })
abbrev MX6_init : Me := (yX6_init, cX6_init, 1, none, { frames := 3, cells := 0, slots := 0, locals := 80 })
abbrev MX6_prepare : Me := (yX6_prepare, cX6_prepare, 4, none, { frames := 1, cells := 0, slots := 0, locals := 40 })
abbrev MX6_codeBound : Me := (yX6_codeBound, cX6_codeBound, 1, some .int, { frames := 1, cells := 0, slots := 0, locals := 40 })
abbrev MX6_startCode : Me := (yX6_startCode, cX6_startCode, 1, some .int, { frames := 1, cells := 0, slots := 0, locals := 40 })
abbrev MX6_follow : Me := (yX6_follow, cX6_follow, 5, some .int, { frames := 2, cells := 0, slots := 0, locals := 62 })
abbrev MX6_isAccepting : Me := (yX6_isAccepting, cX6_isAccepting, 4, some .boolean, { frames := 2, cells := 0, slots := 0, locals := 61 })
abbrev MX7_init : Me := (yX7_init, cX7_init, 1, none, { frames := 1, cells := 0, slots := 0, locals := 40 })
abbrev MX7_fill : Me := (yX7_fill, cX7_fill, 7, none, { frames := 3, cells := 0, slots := 0, locals := 87 })
abbrev MX7_add : Me := (yX7_add, cX7_add, 3, none, { frames := 1, cells := 0, slots := 0, locals := 40 })
abbrev MX7_lengthen : Me := (yX7_lengthen, cX7_lengthen, 6, none, { frames := 2, cells := 0, slots := 0, locals := 62 })
abbrev MX7_isZero : Me := (yX7_isZero, cX7_isZero, 2, some .boolean, { frames := 1, cells := 0, slots := 0, locals := 40 })
abbrev MX7_rest : Me := (yX7_rest, cX7_rest, 3, some .double, { frames := 2, cells := 0, slots := 0, locals := 69 })
abbrev MX7_doubleRest : Me := (yX7_doubleRest, cX7_doubleRest, 10, some .double, { frames := 1, cells := 0, slots := 0, locals := 40 })
abbrev MX7_floatRest : Me := (yX7_floatRest, cX7_floatRest, 6, some .float, { frames := 1, cells := 0, slots := 0, locals := 40 })
abbrev MX8_init : Me := (yX8_init, cX8_init, 1, none, { frames := 1, cells := 0, slots := 0, locals := 40 })
abbrev MX8_of : Me := (yX8_of, cX8_of, 3, some .int, { frames := 1, cells := 0, slots := 0, locals := 40 })
abbrev MX8_fillForward : Me := (yX8_fillForward, cX8_fillForward, 4, none, { frames := 3, cells := 0, slots := 0, locals := 86 })
abbrev MX8_fillBackward : Me := (yX8_fillBackward, cX8_fillBackward, 4, none, { frames := 3, cells := 0, slots := 0, locals := 86 })
abbrev MX8_joinSingles : Me := (yX8_joinSingles, cX8_joinSingles, 5, none, { frames := 2, cells := 0, slots := 0, locals := 62 })
abbrev MX9_init : Me := (yX9_init, cX9_init, 1, none, { frames := 2, cells := 0, slots := 0, locals := 60 })
abbrev MX9_prepare : Me := (yX9_prepare, cX9_prepare, 2, none, { frames := 4, cells := 0, slots := 0, locals := 109 })
abbrev MX9_codeBound : Me := (yX9_codeBound, cX9_codeBound, 1, some .int, { frames := 1, cells := 0, slots := 0, locals := 40 })
abbrev MX9_startCode : Me := (yX9_startCode, cX9_startCode, 1, some .int, { frames := 1, cells := 0, slots := 0, locals := 40 })
abbrev MX9_follow : Me := (yX9_follow, cX9_follow, 4, some .int, { frames := 2, cells := 0, slots := 0, locals := 62 })
abbrev MX9_isAccepting : Me := (yX9_isAccepting, cX9_isAccepting, 2, some .boolean, { frames := 1, cells := 0, slots := 0, locals := 40 })
abbrev MX10_init : Me := (yX10_init, cX10_init, 1, none, { frames := 1, cells := 0, slots := 0, locals := 40 })
abbrev MX10_add : Me := (yX10_add, cX10_add, 2, none, { frames := 1, cells := 0, slots := 0, locals := 40 })
abbrev MX10_copyFrom : Me := (yX10_copyFrom, cX10_copyFrom, 2, none, { frames := 1, cells := 0, slots := 0, locals := 40 })
abbrev MX11_init : Me := (yX11_init, cX11_init, 3, none, { frames := 4, cells := 0, slots := 0, locals := 101 })
abbrev MX11_reset : Me := (yX11_reset, cX11_reset, 3, none, { frames := 10, cells := 0, slots := 0, locals := 201 })
abbrev MX11_setTarget : Me := (yX11_setTarget, cX11_setTarget, 5, none, { frames := 11, cells := 0, slots := 0, locals := 223 })
abbrev MX11_setFinal : Me := (yX11_setFinal, cX11_setFinal, 5, some .boolean, { frames := 11, cells := 0, slots := 0, locals := 223 })
abbrev MX11_stateCount : Me := (yX11_stateCount, cX11_stateCount, 2, some .int, { frames := 10, cells := 0, slots := 0, locals := 201 })
abbrev MX11_target : Me := (yX11_target, cX11_target, 4, some .int, { frames := 11, cells := 0, slots := 0, locals := 223 })
abbrev MX11_isFinal : Me := (yX11_isFinal, cX11_isFinal, 3, some .boolean, { frames := 11, cells := 0, slots := 0, locals := 223 })
abbrev MX11_randomize : Me := (yX11_randomize, cX11_randomize, 3, none, { frames := 10, cells := 0, slots := 0, locals := 201 })
abbrev MX11_makeWitness : Me := (yX11_makeWitness, cX11_makeWitness, 3, none, { frames := 10, cells := 0, slots := 0, locals := 201 })
abbrev MX11_appendLetter : Me := (yX11_appendLetter, cX11_appendLetter, 2, some .int, { frames := 10, cells := 0, slots := 0, locals := 201 })
abbrev MX11_clearWord : Me := (yX11_clearWord, cX11_clearWord, 2, some .int, { frames := 1, cells := 0, slots := 0, locals := 40 })
abbrev MX11_wordLetter : Me := (yX11_wordLetter, cX11_wordLetter, 2, some .int, { frames := 9, cells := 0, slots := 0, locals := 181 })
abbrev MX11_accepts : Me := (yX11_accepts, cX11_accepts, 3, some .boolean, { frames := 10, cells := 0, slots := 0, locals := 201 })
abbrev MX11_size : Me := (yX11_size, cX11_size, 2, some .int, { frames := 10, cells := 0, slots := 0, locals := 201 })
abbrev MX11_minimize : Me := (yX11_minimize, cX11_minimize, 2, some .int, { frames := 10, cells := 0, slots := 0, locals := 201 })
abbrev MX11_quotientOfWord : Me := (yX11_quotientOfWord, cX11_quotientOfWord, 2, some .int, { frames := 10, cells := 0, slots := 0, locals := 201 })
abbrev MX11_atomCount : Me := (yX11_atomCount, cX11_atomCount, 2, some .int, { frames := 11, cells := 0, slots := 0, locals := 222 })
abbrev MX11_atomSet : Me := (yX11_atomSet, cX11_atomSet, 3, some .int, { frames := 11, cells := 0, slots := 0, locals := 222 })
abbrev MX11_atomOfWord : Me := (yX11_atomOfWord, cX11_atomOfWord, 2, some .int, { frames := 11, cells := 0, slots := 0, locals := 222 })
abbrev MX11_atomTargets : Me := (yX11_atomTargets, cX11_atomTargets, 4, some .long, { frames := 11, cells := 0, slots := 0, locals := 222 })
abbrev MX11_initialAtoms : Me := (yX11_initialAtoms, cX11_initialAtoms, 2, some .long, { frames := 11, cells := 0, slots := 0, locals := 222 })
abbrev MX11_finalAtom : Me := (yX11_finalAtom, cX11_finalAtom, 2, some .int, { frames := 11, cells := 0, slots := 0, locals := 222 })
abbrev MX11_takeAtomWord : Me := (yX11_takeAtomWord, cX11_takeAtomWord, 4, some .int, { frames := 11, cells := 0, slots := 0, locals := 222 })
abbrev MX11_atomSize : Me := (yX11_atomSize, cX11_atomSize, 3, some .int, { frames := 11, cells := 0, slots := 0, locals := 222 })
abbrev MX11_resultSize : Me := (yX11_resultSize, cX11_resultSize, 4, some .int, { frames := 10, cells := 0, slots := 0, locals := 201 })
abbrev MX11_starSize : Me := (yX11_starSize, cX11_starSize, 2, some .int, { frames := 10, cells := 0, slots := 0, locals := 201 })
abbrev MX11_combine : Me := (yX11_combine, cX11_combine, 5, some .int, { frames := 10, cells := 0, slots := 0, locals := 201 })
abbrev MX11_star : Me := (yX11_star, cX11_star, 3, some .int, { frames := 10, cells := 0, slots := 0, locals := 201 })
abbrev MX11_reverse : Me := (yX11_reverse, cX11_reverse, 3, some .int, { frames := 11, cells := 0, slots := 0, locals := 222 })
abbrev MX11_uniteAtoms : Me := (yX11_uniteAtoms, cX11_uniteAtoms, 5, some .int, { frames := 11, cells := 0, slots := 0, locals := 222 })
abbrev MX11_isUnionOfAtoms : Me := (yX11_isUnionOfAtoms, cX11_isUnionOfAtoms, 3, some .boolean, { frames := 11, cells := 0, slots := 0, locals := 222 })
abbrev MX11_takeDifference : Me := (yX11_takeDifference, cX11_takeDifference, 4, some .int, { frames := 10, cells := 0, slots := 0, locals := 201 })
abbrev MX11_share : Me := (yX11_share, cX11_share, 3, some .double, { frames := 10, cells := 0, slots := 0, locals := 201 })
abbrev MX11_keepShares : Me := (yX11_keepShares, cX11_keepShares, 5, none, { frames := 10, cells := 0, slots := 0, locals := 201 })
abbrev MX11_remainder : Me := (yX11_remainder, cX11_remainder, 4, some .double, { frames := 9, cells := 0, slots := 0, locals := 181 })
abbrev MX11_save : Me := (yX11_save, cX11_save, 2, none, { frames := 2, cells := 0, slots := 0, locals := 61 })
abbrev MX11_restore : Me := (yX11_restore, cX11_restore, 2, none, { frames := 8, cells := 0, slots := 0, locals := 160 })
abbrev MX11_checkIndex : Me := (yX11_checkIndex, cX11_checkIndex, 2, none, { frames := 8, cells := 0, slots := 0, locals := 160 })
abbrev MX11_checkRegister : Me := (yX11_checkRegister, cX11_checkRegister, 1, none, { frames := 9, cells := 0, slots := 0, locals := 181 })
abbrev MX11_checkLetter : Me := (yX11_checkLetter, cX11_checkLetter, 1, none, { frames := 9, cells := 0, slots := 0, locals := 181 })
abbrev MX11_checkState : Me := (yX11_checkState, cX11_checkState, 3, none, { frames := 10, cells := 0, slots := 0, locals := 201 })
abbrev MX11_checkStates : Me := (yX11_checkStates, cX11_checkStates, 1, none, { frames := 8, cells := 0, slots := 0, locals := 160 })
abbrev MX11_checkOperation : Me := (yX11_checkOperation, cX11_checkOperation, 1, none, { frames := 8, cells := 0, slots := 0, locals := 160 })
abbrev MX11_checkLength : Me := (yX11_checkLength, cX11_checkLength, 1, none, { frames := 8, cells := 0, slots := 0, locals := 160 })
abbrev MX11_checkAtoms : Me := (yX11_checkAtoms, cX11_checkAtoms, 3, none, { frames := 8, cells := 0, slots := 0, locals := 160 })
abbrev MX11_checkWordLength : Me := (yX11_checkWordLength, cX11_checkWordLength, 1, none, { frames := 8, cells := 0, slots := 0, locals := 160 })
abbrev MX11_checkResult : Me := (yX11_checkResult, cX11_checkResult, 1, none, { frames := 8, cells := 0, slots := 0, locals := 160 })
abbrev MX11_findAtoms : Me := (yX11_findAtoms, cX11_findAtoms, 2, none, { frames := 10, cells := 0, slots := 0, locals := 201 })
abbrev MX11_operate : Me := (yX11_operate, cX11_operate, 4, some .int, { frames := 6, cells := 0, slots := 0, locals := 153 })
abbrev MX12_init : Me := (yX12_init, cX12_init, 1, none, { frames := 1, cells := 0, slots := 0, locals := 40 })
abbrev MX12_thrown : Me := (yX12_thrown, cX12_thrown, 1, some .int, { frames := 1, cells := 0, slots := 0, locals := 40 })
abbrev MX12_in : Me := (yX12_in, cX12_in, 3, some .boolean, { frames := 1, cells := 0, slots := 0, locals := 40 })
abbrev MX12_fails : Me := (yX12_fails, cX12_fails, 2, some .int, { frames := 1, cells := 0, slots := 0, locals := 40 })
abbrev MX12_done : Me := (yX12_done, cX12_done, 2, some .int, { frames := 1, cells := 0, slots := 0, locals := 40 })
abbrev MX12_so : Me := (yX12_so, cX12_so, 2, some .boolean, { frames := 1, cells := 0, slots := 0, locals := 40 })
abbrev MX12_not : Me := (yX12_not, cX12_not, 2, some .boolean, { frames := 1, cells := 0, slots := 0, locals := 40 })
abbrev MX12_isRegister : Me := (yX12_isRegister, cX12_isRegister, 1, some .boolean, { frames := 2, cells := 0, slots := 0, locals := 62 })
abbrev MX12_isState : Me := (yX12_isState, cX12_isState, 3, some .boolean, { frames := 3, cells := 0, slots := 0, locals := 82 })
abbrev MX12_isLetter : Me := (yX12_isLetter, cX12_isLetter, 1, some .boolean, { frames := 2, cells := 0, slots := 0, locals := 62 })
abbrev MX12_place : Me := (yX12_place, cX12_place, 3, some .int, { frames := 1, cells := 0, slots := 0, locals := 40 })
abbrev MX12_clears : Me := (yX12_clears, cX12_clears, 5, none, { frames := 2, cells := 0, slots := 0, locals := 62 })
abbrev MX12_reset : Me := (yX12_reset, cX12_reset, 3, none, { frames := 3, cells := 0, slots := 0, locals := 86 })
abbrev MX12_setTarget : Me := (yX12_setTarget, cX12_setTarget, 5, none, { frames := 4, cells := 0, slots := 0, locals := 104 })
abbrev MX12_setFinal : Me := (yX12_setFinal, cX12_setFinal, 5, some .boolean, { frames := 4, cells := 0, slots := 0, locals := 104 })
abbrev MX12_stateCount : Me := (yX12_stateCount, cX12_stateCount, 2, some .int, { frames := 3, cells := 0, slots := 0, locals := 82 })
abbrev MX12_target : Me := (yX12_target, cX12_target, 4, some .int, { frames := 4, cells := 0, slots := 0, locals := 104 })
abbrev MX12_isFinal : Me := (yX12_isFinal, cX12_isFinal, 3, some .boolean, { frames := 4, cells := 0, slots := 0, locals := 104 })
abbrev MX12_draw : Me := (yX12_draw, cX12_draw, 2, some .int, { frames := 1, cells := 0, slots := 0, locals := 40 })
abbrev MX12_randomize : Me := (yX12_randomize, cX12_randomize, 5, none, { frames := 3, cells := 0, slots := 0, locals := 82 })
abbrev MX12_makeWitness : Me := (yX12_makeWitness, cX12_makeWitness, 4, none, { frames := 3, cells := 0, slots := 0, locals := 86 })
abbrev MX12_appendLetter : Me := (yX12_appendLetter, cX12_appendLetter, 2, some .int, { frames := 3, cells := 0, slots := 0, locals := 82 })
abbrev MX12_clearWord : Me := (yX12_clearWord, cX12_clearWord, 2, some .int, { frames := 2, cells := 0, slots := 0, locals := 61 })
abbrev MX12_wordLetter : Me := (yX12_wordLetter, cX12_wordLetter, 2, some .int, { frames := 2, cells := 0, slots := 0, locals := 62 })
abbrev MX12_stateBy : Me := (yX12_stateBy, cX12_stateBy, 5, some .int, { frames := 2, cells := 0, slots := 0, locals := 62 })
abbrev MX12_accepts : Me := (yX12_accepts, cX12_accepts, 2, some .boolean, { frames := 3, cells := 0, slots := 0, locals := 86 })
abbrev MX12_nodeOf : Me := (yX12_nodeOf, cX12_nodeOf, 4, some .int, { frames := 1, cells := 0, slots := 0, locals := 40 })
abbrev MX12_firstKey : Me := (yX12_firstKey, cX12_firstKey, 1, some .long, { frames := 2, cells := 0, slots := 0, locals := 63 })
abbrev MX12_finalStates : Me := (yX12_finalStates, cX12_finalStates, 4, some .long, { frames := 1, cells := 0, slots := 0, locals := 40 })
abbrev MX12_concatenated : Me := (yX12_concatenated, cX12_concatenated, 4, some .long, { frames := 1, cells := 0, slots := 0, locals := 40 })
abbrev MX12_led : Me := (yX12_led, cX12_led, 8, some .long, { frames := 2, cells := 0, slots := 0, locals := 62 })
abbrev MX12_keyAfter : Me := (yX12_keyAfter, cX12_keyAfter, 4, some .long, { frames := 4, cells := 0, slots := 0, locals := 114 })
abbrev MX12_starAfter : Me := (yX12_starAfter, cX12_starAfter, 6, some .long, { frames := 3, cells := 0, slots := 0, locals := 89 })
abbrev MX12_ledBack : Me := (yX12_ledBack, cX12_ledBack, 7, some .long, { frames := 2, cells := 0, slots := 0, locals := 62 })
abbrev MX12_atomsAfter : Me := (yX12_atomsAfter, cX12_atomsAfter, 7, some .long, { frames := 1, cells := 0, slots := 0, locals := 40 })
abbrev MX12_isEnd : Me := (yX12_isEnd, cX12_isEnd, 5, some .boolean, { frames := 2, cells := 0, slots := 0, locals := 65 })
abbrev MX12_hasFinal : Me := (yX12_hasFinal, cX12_hasFinal, 6, some .boolean, { frames := 1, cells := 0, slots := 0, locals := 40 })
abbrev MX12_makes : Me := (yX12_makes, cX12_makes, 8, none, { frames := 5, cells := 0, slots := 0, locals := 137 })
abbrev MX12_isAlike : Me := (yX12_isAlike, cX12_isAlike, 5, some .boolean, { frames := 1, cells := 0, slots := 0, locals := 40 })
abbrev MX12_parts : Me := (yX12_parts, cX12_parts, 4, none, { frames := 2, cells := 0, slots := 0, locals := 64 })
abbrev MX12_nodeOfClass : Me := (yX12_nodeOfClass, cX12_nodeOfClass, 3, some .int, { frames := 1, cells := 0, slots := 0, locals := 40 })
abbrev MX12_stores : Me := (yX12_stores, cX12_stores, 6, some .int, { frames := 2, cells := 0, slots := 0, locals := 62 })
abbrev MX12_size : Me := (yX12_size, cX12_size, 2, some .int, { frames := 6, cells := 0, slots := 0, locals := 164 })
abbrev MX12_minimize : Me := (yX12_minimize, cX12_minimize, 2, some .int, { frames := 6, cells := 0, slots := 0, locals := 164 })
abbrev MX12_quotientOfWord : Me := (yX12_quotientOfWord, cX12_quotientOfWord, 4, some .int, { frames := 6, cells := 0, slots := 0, locals := 164 })
abbrev MX12_tellAtoms : Me := (yX12_tellAtoms, cX12_tellAtoms, 3, none, { frames := 6, cells := 0, slots := 0, locals := 164 })
abbrev MX12_ofStates : Me := (yX12_ofStates, cX12_ofStates, 5, some .int, { frames := 1, cells := 0, slots := 0, locals := 40 })
abbrev MX12_numberOf : Me := (yX12_numberOf, cX12_numberOf, 3, some .int, { frames := 1, cells := 0, slots := 0, locals := 40 })
abbrev MX12_isAtom : Me := (yX12_isAtom, cX12_isAtom, 2, some .boolean, { frames := 2, cells := 0, slots := 0, locals := 62 })
abbrev MX12_atomCount : Me := (yX12_atomCount, cX12_atomCount, 2, some .int, { frames := 7, cells := 0, slots := 0, locals := 186 })
abbrev MX12_atomSet : Me := (yX12_atomSet, cX12_atomSet, 3, some .int, { frames := 7, cells := 0, slots := 0, locals := 186 })
abbrev MX12_atomOfWord : Me := (yX12_atomOfWord, cX12_atomOfWord, 4, some .int, { frames := 7, cells := 0, slots := 0, locals := 186 })
abbrev MX12_setAhead : Me := (yX12_setAhead, cX12_setAhead, 7, some .int, { frames := 2, cells := 0, slots := 0, locals := 62 })
abbrev MX12_tellAtomMachine : Me := (yX12_tellAtomMachine, cX12_tellAtomMachine, 4, none, { frames := 7, cells := 0, slots := 0, locals := 186 })
abbrev MX12_atomTargets : Me := (yX12_atomTargets, cX12_atomTargets, 4, some .long, { frames := 8, cells := 0, slots := 0, locals := 209 })
abbrev MX12_initialAtoms : Me := (yX12_initialAtoms, cX12_initialAtoms, 5, some .long, { frames := 7, cells := 0, slots := 0, locals := 186 })
abbrev MX12_finalAtom : Me := (yX12_finalAtom, cX12_finalAtom, 2, some .int, { frames := 8, cells := 0, slots := 0, locals := 209 })
abbrev MX12_firstWord : Me := (yX12_firstWord, cX12_firstWord, 5, some .int, { frames := 1, cells := 0, slots := 0, locals := 40 })
abbrev MX12_takeAtomWord : Me := (yX12_takeAtomWord, cX12_takeAtomWord, 4, some .int, { frames := 8, cells := 0, slots := 0, locals := 209 })
abbrev MX12_atomSize : Me := (yX12_atomSize, cX12_atomSize, 3, some .int, { frames := 8, cells := 0, slots := 0, locals := 209 })
abbrev MX12_resultSize : Me := (yX12_resultSize, cX12_resultSize, 4, some .int, { frames := 6, cells := 0, slots := 0, locals := 164 })
abbrev MX12_starSize : Me := (yX12_starSize, cX12_starSize, 2, some .int, { frames := 6, cells := 0, slots := 0, locals := 164 })
abbrev MX12_combine : Me := (yX12_combine, cX12_combine, 5, some .int, { frames := 6, cells := 0, slots := 0, locals := 164 })
abbrev MX12_star : Me := (yX12_star, cX12_star, 3, some .int, { frames := 6, cells := 0, slots := 0, locals := 164 })
abbrev MX12_reverse : Me := (yX12_reverse, cX12_reverse, 3, some .int, { frames := 6, cells := 0, slots := 0, locals := 164 })
abbrev MX12_uniteAtoms : Me := (yX12_uniteAtoms, cX12_uniteAtoms, 5, some .int, { frames := 8, cells := 0, slots := 0, locals := 209 })
abbrev MX12_isSmall : Me := (yX12_isSmall, cX12_isSmall, 3, some .boolean, { frames := 2, cells := 0, slots := 0, locals := 66 })
abbrev MX12_meets : Me := (yX12_meets, cX12_meets, 4, none, { frames := 1, cells := 0, slots := 0, locals := 40 })
abbrev MX12_backFrom : Me := (yX12_backFrom, cX12_backFrom, 6, some .int, { frames := 2, cells := 0, slots := 0, locals := 62 })
abbrev MX12_finalsOf : Me := (yX12_finalsOf, cX12_finalsOf, 4, some .int, { frames := 1, cells := 0, slots := 0, locals := 40 })
abbrev MX12_isUnionOfAtoms : Me := (yX12_isUnionOfAtoms, cX12_isUnionOfAtoms, 10, some .boolean, { frames := 7, cells := 0, slots := 0, locals := 186 })
abbrev MX12_takeDifference : Me := (yX12_takeDifference, cX12_takeDifference, 4, some .int, { frames := 6, cells := 0, slots := 0, locals := 164 })
abbrev MX12_shareOf : Me := (yX12_shareOf, cX12_shareOf, 8, some .double, { frames := 2, cells := 0, slots := 0, locals := 62 })
abbrev MX12_share : Me := (yX12_share, cX12_share, 3, some .double, { frames := 3, cells := 0, slots := 0, locals := 89 })
abbrev MX12_keepShares : Me := (yX12_keepShares, cX12_keepShares, 6, none, { frames := 3, cells := 0, slots := 0, locals := 89 })
abbrev MX12_remainder : Me := (yX12_remainder, cX12_remainder, 6, some .double, { frames := 2, cells := 0, slots := 0, locals := 62 })
abbrev MX12_save : Me := (yX12_save, cX12_save, 2, none, { frames := 1, cells := 0, slots := 0, locals := 40 })
abbrev MX12_restore : Me := (yX12_restore, cX12_restore, 2, none, { frames := 1, cells := 0, slots := 0, locals := 40 })
abbrev MJx00060_init_a7421 : Me := (yJx00060_init_a7421, cJx00060_init_a7421, 2, none, { frames := 1, cells := 0, slots := 0, locals := 40 })
abbrev MJ13_bitCount_95d88 : Me := (yJ13_bitCount_95d88, cJ13_bitCount_95d88, 2, some .int, { frames := 1, cells := 0, slots := 0, locals := 40 })
theorem vo_X0_69 : VO RX0 69 7 MX8_of 2 := ⟨_, ko_X8.1, tb_all _ [756, 757, 758, 61, 759] (by decide +kernel) (by decide +kernel), by decide +kernel⟩
theorem vo_X0_73 : VO RX0 73 7 MX8_fillBackward 1 := ⟨_, ko_X8.1, tb_all _ [832, 833, 834, 61, 835] (by decide +kernel) (by decide +kernel), by decide +kernel⟩
theorem vo_X0_77 : VO RX0 77 0 MX0_startCode 0 := ⟨_, ko_X0.1, tb_all _ [842, 710, 1625, 66, 711] (by decide +kernel) (by decide +kernel), by decide +kernel⟩
theorem vo_X0_81 : VO RX0 81 0 MX0_addAtom 3 := ⟨_, ko_X0.1, tb_all _ [843, 845, 9, 66, 846] (by decide +kernel) (by decide +kernel), by decide +kernel⟩
theorem vo_X0_85 : VO RX0 85 0 MX0_follow 2 := ⟨_, ko_X0.1, tb_all _ [850, 754, 1626, 66, 755] (by decide +kernel) (by decide +kernel), by decide +kernel⟩
theorem so_X0_88 : SO RX0 88 MX0_holds 2 := ⟨tb_all _ [847, 848, 66, 849] (by decide +kernel) (by decide +kernel), by decide +kernel⟩
theorem so_X0_92 : SO RX0 92 MJ13_bitCount_95d88 1 := ⟨tb_all _ [877, 878, 76, 879] (by decide +kernel) (by decide +kernel), by decide +kernel⟩
theorem vo_X0_106 : VO RX0 106 0 MX0_numberOf 1 := ⟨_, ko_X0.1, tb_all _ [894, 874, 875, 66, 876] (by decide +kernel) (by decide +kernel), by decide +kernel⟩
theorem vo_X0_110 : VO RX0 110 0 MX0_isAccepting 1 := ⟨_, ko_X0.1, tb_all _ [906, 737, 1627, 66, 738] (by decide +kernel) (by decide +kernel), by decide +kernel⟩
theorem vo_X0_114 : VO RX0 114 0 MX0_firstWordLength 1 := ⟨_, ko_X0.1, tb_all _ [930, 923, 924, 66, 925] (by decide +kernel) (by decide +kernel), by decide +kernel⟩
theorem vo_X0_117 : VO RX0 117 9 MX10_add 1 := ⟨_, ko_X10.1, tb_all _ [931, 651, 652, 56, 653] (by decide +kernel) (by decide +kernel), by decide +kernel⟩
theorem vo_X0_121 : VO RX0 121 7 MX8_fillForward 1 := ⟨_, ko_X8.1, tb_all _ [943, 944, 945, 61, 946] (by decide +kernel) (by decide +kernel), by decide +kernel⟩
theorem vo_X0_124 : VO RX0 124 0 MX0_fillLanguages 0 := ⟨_, ko_X0.1, tb_all _ [947, 949, 10, 66, 950] (by decide +kernel) (by decide +kernel), by decide +kernel⟩
theorem vo_X0_127 : VO RX0 127 3 MX3_begin 1 := ⟨_, ko_X3.1, tb_all _ [956, 783, 784, 64, 785] (by decide +kernel) (by decide +kernel), by decide +kernel⟩
theorem vo_X0_135 : VO RX0 135 0 MX0_addPair 2 := ⟨_, ko_X0.1, tb_all _ [957, 959, 12, 66, 960] (by decide +kernel) (by decide +kernel), by decide +kernel⟩
theorem vo_X0_140 : VO RX0 140 3 MX3_place 1 := ⟨_, ko_X3.1, tb_all _ [961, 788, 789, 64, 790] (by decide +kernel) (by decide +kernel), by decide +kernel⟩
theorem vo_X0_143 : VO RX0 143 0 MX0_atomsWith 1 := ⟨_, ko_X0.1, tb_all _ [951, 953, 11, 66, 954] (by decide +kernel) (by decide +kernel), by decide +kernel⟩
theorem vo_X0_149 : VO RX0 149 0 MX0_languageOf 1 := ⟨_, ko_X0.1, tb_all _ [1039, 1041, 15, 66, 1042] (by decide +kernel) (by decide +kernel), by decide +kernel⟩
theorem vo_X0_153 : VO RX0 153 1 MX1_clear 1 := ⟨_, ko_X1.1, tb_all _ [1043, 530, 531, 59, 532] (by decide +kernel) (by decide +kernel), by decide +kernel⟩
theorem vo_X0_158 : VO RX0 158 1 MX1_mark 2 := ⟨_, ko_X1.1, tb_all _ [1044, 563, 564, 59, 565] (by decide +kernel) (by decide +kernel), by decide +kernel⟩
theorem vo_X0_162 : VO RX0 162 0 MX0_quotient 2 := ⟨_, ko_X0.1, tb_all _ [1045, 1047, 16, 66, 1048] (by decide +kernel) (by decide +kernel), by decide +kernel⟩
theorem vo_X0_166 : VO RX0 166 1 MX1_lead 3 := ⟨_, ko_X1.1, tb_all _ [1049, 548, 549, 59, 550] (by decide +kernel) (by decide +kernel), by decide +kernel⟩
theorem vo_X1_36 : VO RX1 36 1 MX1_follow 2 := ⟨_, ko_X1.1, tb_all _ [672, 581, 582, 59, 583] (by decide +kernel) (by decide +kernel), by decide +kernel⟩
theorem so_X1_40 : SO RX1 40 MX1_nextValue 1 := ⟨tb_all _ [602, 603, 59, 604] (by decide +kernel) (by decide +kernel), by decide +kernel⟩
theorem so_X1_44 : SO RX1 44 MX1_draw 2 := ⟨tb_all _ [606, 607, 59, 608] (by decide +kernel) (by decide +kernel), by decide +kernel⟩
theorem vo_X1_47 : VO RX1 47 1 MX1_mark 2 := ⟨_, ko_X1.1, tb_all _ [609, 563, 564, 59, 565] (by decide +kernel) (by decide +kernel), by decide +kernel⟩
theorem vo_X1_52 : VO RX1 52 1 MX1_clear 1 := ⟨_, ko_X1.1, tb_all _ [621, 530, 531, 59, 532] (by decide +kernel) (by decide +kernel), by decide +kernel⟩
theorem vo_X1_56 : VO RX1 56 1 MX1_lead 3 := ⟨_, ko_X1.1, tb_all _ [622, 548, 549, 59, 550] (by decide +kernel) (by decide +kernel), by decide +kernel⟩
theorem so_X11_88 : SO RX11 88 MX11_checkRegister 1 := ⟨tb_all _ [491, 492, 55, 493] (by decide +kernel) (by decide +kernel), by decide +kernel⟩
theorem so_X11_92 : SO RX11 92 MX11_checkStates 1 := ⟨tb_all _ [510, 511, 55, 512] (by decide +kernel) (by decide +kernel), by decide +kernel⟩
theorem vo_X11_95 : VO RX11 95 1 MX1_clear 1 := ⟨_, ko_X1.1, tb_all _ [529, 530, 531, 59, 532] (by decide +kernel) (by decide +kernel), by decide +kernel⟩
theorem vo_X11_98 : VO RX11 98 10 MX11_checkState 2 := ⟨_, ko_X11.1, tb_all _ [540, 542, 1, 55, 543] (by decide +kernel) (by decide +kernel), by decide +kernel⟩
theorem so_X11_102 : SO RX11 102 MX11_checkLetter 1 := ⟨tb_all _ [544, 545, 55, 546] (by decide +kernel) (by decide +kernel), by decide +kernel⟩
theorem vo_X11_105 : VO RX11 105 1 MX1_lead 3 := ⟨_, ko_X1.1, tb_all _ [547, 548, 549, 59, 550] (by decide +kernel) (by decide +kernel), by decide +kernel⟩
theorem vo_X11_109 : VO RX11 109 1 MX1_isAccepting 1 := ⟨_, ko_X1.1, tb_all _ [558, 559, 560, 59, 561] (by decide +kernel) (by decide +kernel), by decide +kernel⟩
theorem vo_X11_113 : VO RX11 113 1 MX1_mark 2 := ⟨_, ko_X1.1, tb_all _ [562, 563, 564, 59, 565] (by decide +kernel) (by decide +kernel), by decide +kernel⟩
theorem vo_X11_121 : VO RX11 121 1 MX1_follow 2 := ⟨_, ko_X1.1, tb_all _ [580, 581, 582, 59, 583] (by decide +kernel) (by decide +kernel), by decide +kernel⟩
theorem vo_X11_125 : VO RX11 125 1 MX1_drawAll 1 := ⟨_, ko_X1.1, tb_all _ [598, 599, 600, 59, 601] (by decide +kernel) (by decide +kernel), by decide +kernel⟩
theorem vo_X11_128 : VO RX11 128 1 MX1_becomeWitness 1 := ⟨_, ko_X1.1, tb_all _ [617, 618, 619, 59, 620] (by decide +kernel) (by decide +kernel), by decide +kernel⟩
theorem so_X11_134 : SO RX11 134 MX11_checkWordLength 1 := ⟨tb_all _ [631, 632, 55, 633] (by decide +kernel) (by decide +kernel), by decide +kernel⟩
theorem vo_X11_137 : VO RX11 137 9 MX10_add 1 := ⟨_, ko_X10.1, tb_all _ [650, 651, 652, 56, 653] (by decide +kernel) (by decide +kernel), by decide +kernel⟩
theorem so_X11_140 : SO RX11 140 MX11_checkIndex 2 := ⟨tb_all _ [494, 495, 55, 496] (by decide +kernel) (by decide +kernel), by decide +kernel⟩
theorem vo_X11_147 : VO RX11 147 1 MX1_stateAfter 1 := ⟨_, ko_X1.1, tb_all _ [668, 669, 670, 59, 671] (by decide +kernel) (by decide +kernel), by decide +kernel⟩
theorem vo_X11_151 : VO RX11 151 4 MX5_run 1 := ⟨_, ko_X5.1, tb_all _ [680, 681, 682, 65, 683] (by decide +kernel) (by decide +kernel), by decide +kernel⟩
theorem vo_X11_155 : VO RX11 155 4 MX5_storeIn 1 := ⟨_, ko_X5.1, tb_all _ [803, 804, 805, 65, 806] (by decide +kernel) (by decide +kernel), by decide +kernel⟩
theorem vo_X11_159 : VO RX11 159 10 MX11_findAtoms 1 := ⟨_, ko_X11.1, tb_all _ [824, 826, 7, 55, 827] (by decide +kernel) (by decide +kernel), by decide +kernel⟩
theorem vo_X11_165 : VO RX11 165 0 MX0_setOf 1 := ⟨_, ko_X0.1, tb_all _ [858, 859, 860, 66, 861] (by decide +kernel) (by decide +kernel), by decide +kernel⟩
theorem vo_X11_169 : VO RX11 169 0 MX0_setOfWord 1 := ⟨_, ko_X0.1, tb_all _ [869, 870, 871, 66, 872] (by decide +kernel) (by decide +kernel), by decide +kernel⟩
theorem vo_X11_172 : VO RX11 172 0 MX0_numberOf 1 := ⟨_, ko_X0.1, tb_all _ [873, 874, 875, 66, 876] (by decide +kernel) (by decide +kernel), by decide +kernel⟩
theorem vo_X11_175 : VO RX11 175 0 MX0_targetsOf 2 := ⟨_, ko_X0.1, tb_all _ [890, 891, 892, 66, 893] (by decide +kernel) (by decide +kernel), by decide +kernel⟩
theorem vo_X11_179 : VO RX11 179 0 MX0_initialOnes 0 := ⟨_, ko_X0.1, tb_all _ [902, 903, 904, 66, 905] (by decide +kernel) (by decide +kernel), by decide +kernel⟩
theorem vo_X11_183 : VO RX11 183 0 MX0_startCode 0 := ⟨_, ko_X0.1, tb_all _ [914, 710, 1625, 66, 711] (by decide +kernel) (by decide +kernel), by decide +kernel⟩
theorem vo_X11_187 : VO RX11 187 0 MX0_firstWordLength 1 := ⟨_, ko_X0.1, tb_all _ [922, 923, 924, 66, 925] (by decide +kernel) (by decide +kernel), by decide +kernel⟩
theorem vo_X11_190 : VO RX11 190 0 MX0_writeFirstWord 2 := ⟨_, ko_X0.1, tb_all _ [926, 927, 928, 66, 929] (by decide +kernel) (by decide +kernel), by decide +kernel⟩
theorem vo_X11_194 : VO RX11 194 0 MX0_countQuotients 1 := ⟨_, ko_X0.1, tb_all _ [939, 940, 941, 66, 942] (by decide +kernel) (by decide +kernel), by decide +kernel⟩
theorem so_X11_197 : SO RX11 197 MX11_checkOperation 1 := ⟨tb_all _ [969, 970, 55, 971] (by decide +kernel) (by decide +kernel), by decide +kernel⟩
theorem vo_X11_200 : VO RX11 200 10 MX11_operate 3 := ⟨_, ko_X11.1, tb_all _ [973, 975, 13, 55, 976] (by decide +kernel) (by decide +kernel), by decide +kernel⟩
theorem vo_X11_204 : VO RX11 204 8 MX9_prepare 1 := ⟨_, ko_X9.1, tb_all _ [993, 994, 995, 62, 996] (by decide +kernel) (by decide +kernel), by decide +kernel⟩
theorem so_X11_207 : SO RX11 207 MX11_checkResult 1 := ⟨tb_all _ [1005, 1006, 55, 1007] (by decide +kernel) (by decide +kernel), by decide +kernel⟩
theorem vo_X11_210 : VO RX11 210 10 MX11_checkAtoms 1 := ⟨_, ko_X11.1, tb_all _ [1030, 1032, 14, 55, 1033] (by decide +kernel) (by decide +kernel), by decide +kernel⟩
theorem vo_X11_214 : VO RX11 214 0 MX0_writeUnion 2 := ⟨_, ko_X0.1, tb_all _ [1035, 1036, 1037, 66, 1038] (by decide +kernel) (by decide +kernel), by decide +kernel⟩
theorem vo_X11_218 : VO RX11 218 1 MX1_copyFrom 1 := ⟨_, ko_X1.1, tb_all _ [392, 393, 394, 59, 395] (by decide +kernel) (by decide +kernel), by decide +kernel⟩
theorem vo_X11_221 : VO RX11 221 0 MX0_determine 1 := ⟨_, ko_X0.1, tb_all _ [1057, 1058, 1059, 66, 1060] (by decide +kernel) (by decide +kernel), by decide +kernel⟩
theorem vo_X11_225 : VO RX11 225 5 MX6_prepare 3 := ⟨_, ko_X6.1, tb_all _ [982, 983, 984, 58, 985] (by decide +kernel) (by decide +kernel), by decide +kernel⟩
theorem vo_X11_228 : VO RX11 228 4 MX5_explore 1 := ⟨_, ko_X5.1, tb_all _ [1069, 685, 686, 65, 687] (by decide +kernel) (by decide +kernel), by decide +kernel⟩
theorem vo_X11_232 : VO RX11 232 4 MX5_firstAccepting 0 := ⟨_, ko_X5.1, tb_all _ [1070, 1071, 1072, 65, 1073] (by decide +kernel) (by decide +kernel), by decide +kernel⟩
theorem vo_X11_242 : VO RX11 242 4 MX5_firstWordLength 1 := ⟨_, ko_X5.1, tb_all _ [1090, 1091, 1092, 65, 1093] (by decide +kernel) (by decide +kernel), by decide +kernel⟩
theorem vo_X11_243 : VO RX11 243 4 MX5_writeFirstWord 2 := ⟨_, ko_X5.1, tb_all _ [1094, 1095, 1096, 65, 1097] (by decide +kernel) (by decide +kernel), by decide +kernel⟩
theorem so_X11_244 : SO RX11 244 MX11_checkLength 1 := ⟨tb_all _ [1106, 1107, 55, 1108] (by decide +kernel) (by decide +kernel), by decide +kernel⟩
theorem vo_X11_247 : VO RX11 247 6 MX7_fill 3 := ⟨_, ko_X7.1, tb_all _ [1110, 1111, 1112, 63, 1113] (by decide +kernel) (by decide +kernel), by decide +kernel⟩
theorem vo_X11_266 : VO RX11 266 6 MX7_isZero 1 := ⟨_, ko_X7.1, tb_all _ [1155, 1156, 1157, 63, 1158] (by decide +kernel) (by decide +kernel), by decide +kernel⟩
theorem vo_X11_274 : VO RX11 274 6 MX7_rest 2 := ⟨_, ko_X7.1, tb_all _ [1162, 1163, 1164, 63, 1165] (by decide +kernel) (by decide +kernel), by decide +kernel⟩
theorem vo_X11_278 : VO RX11 278 9 MX10_copyFrom 1 := ⟨_, ko_X10.1, tb_all _ [399, 400, 401, 56, 402] (by decide +kernel) (by decide +kernel), by decide +kernel⟩
theorem vo_X11_303 : VO RX11 303 0 MX0_find 0 := ⟨_, ko_X0.1, tb_all _ [828, 829, 830, 66, 831] (by decide +kernel) (by decide +kernel), by decide +kernel⟩
theorem vo_X11_306 : VO RX11 306 2 MX2_prepare 2 := ⟨_, ko_X2.1, tb_all _ [977, 978, 979, 60, 980] (by decide +kernel) (by decide +kernel), by decide +kernel⟩
theorem vo_X2_32 : VO RX2 32 7 MX8_fillForward 1 := ⟨_, ko_X8.1, tb_all _ [981, 944, 945, 61, 946] (by decide +kernel) (by decide +kernel), by decide +kernel⟩
theorem vo_X2_36 : VO RX2 36 2 MX2_enter 2 := ⟨_, ko_X2.1, tb_all _ [718, 720, 2, 60, 721] (by decide +kernel) (by decide +kernel), by decide +kernel⟩
theorem vo_X2_40 : VO RX2 40 1 MX1_follow 2 := ⟨_, ko_X1.1, tb_all _ [764, 581, 582, 59, 583] (by decide +kernel) (by decide +kernel), by decide +kernel⟩
theorem vo_X2_43 : VO RX2 43 7 MX8_of 2 := ⟨_, ko_X8.1, tb_all _ [765, 757, 758, 61, 759] (by decide +kernel) (by decide +kernel), by decide +kernel⟩
theorem vo_X2_46 : VO RX2 46 1 MX1_isAccepting 1 := ⟨_, ko_X1.1, tb_all _ [722, 559, 560, 59, 561] (by decide +kernel) (by decide +kernel), by decide +kernel⟩
theorem vo_X3_28 : VO RX3 28 3 MX3_insert 2 := ⟨_, ko_X3.1, tb_all _ [792, 794, 6, 64, 795] (by decide +kernel) (by decide +kernel), by decide +kernel⟩
theorem vo_X5_45 : VO RX5 45 4 MX5_explore 1 := ⟨_, ko_X5.1, tb_all _ [684, 685, 686, 65, 687] (by decide +kernel) (by decide +kernel), by decide +kernel⟩
theorem vo_X5_49 : VO RX5 49 4 MX5_splitByAcceptance 0 := ⟨_, ko_X5.1, tb_all _ [774, 776, 4, 65, 777] (by decide +kernel) (by decide +kernel), by decide +kernel⟩
theorem vo_X5_52 : VO RX5 52 4 MX5_splitByTargets 0 := ⟨_, ko_X5.1, tb_all _ [778, 780, 5, 65, 781] (by decide +kernel) (by decide +kernel), by decide +kernel⟩
theorem uo_X5_56_X0 : UO RX5 56 0 ⟨"LanguageAtoms$Machine", "codeBound", "()I"⟩ MX0_codeBound 0 := ⟨_, ko_X0.1, tb_all _ [688, 690, 691, 692, 66, 693] (by decide +kernel) (by decide +kernel), nb_in 689 (by decide +kernel) rfl, by decide +kernel⟩
theorem uo_X5_56_X1 : UO RX5 56 1 ⟨"LanguageAtoms$Machine", "codeBound", "()I"⟩ MX1_codeBound 0 := ⟨_, ko_X1.1, tb_all _ [688, 690, 694, 695, 59, 696] (by decide +kernel) (by decide +kernel), nb_in 689 (by decide +kernel) rfl, by decide +kernel⟩
theorem uo_X5_56_X2 : UO RX5 56 2 ⟨"LanguageAtoms$Machine", "codeBound", "()I"⟩ MX2_codeBound 0 := ⟨_, ko_X2.1, tb_all _ [688, 690, 697, 698, 60, 699] (by decide +kernel) (by decide +kernel), nb_in 689 (by decide +kernel) rfl, by decide +kernel⟩
theorem uo_X5_56_X6 : UO RX5 56 5 ⟨"LanguageAtoms$Machine", "codeBound", "()I"⟩ MX6_codeBound 0 := ⟨_, ko_X6.1, tb_all _ [688, 690, 700, 701, 58, 702] (by decide +kernel) (by decide +kernel), nb_in 689 (by decide +kernel) rfl, by decide +kernel⟩
theorem uo_X5_56_X9 : UO RX5 56 8 ⟨"LanguageAtoms$Machine", "codeBound", "()I"⟩ MX9_codeBound 0 := ⟨_, ko_X9.1, tb_all _ [688, 690, 703, 704, 62, 705] (by decide +kernel) (by decide +kernel), nb_in 689 (by decide +kernel) rfl, by decide +kernel⟩
theorem uo_X5_62_X0 : UO RX5 62 0 ⟨"LanguageAtoms$Machine", "startCode", "()I"⟩ MX0_startCode 0 := ⟨_, ko_X0.1, tb_all _ [706, 708, 709, 710, 66, 711] (by decide +kernel) (by decide +kernel), nb_in 707 (by decide +kernel) rfl, by decide +kernel⟩
theorem uo_X5_62_X1 : UO RX5 62 1 ⟨"LanguageAtoms$Machine", "startCode", "()I"⟩ MX1_startCode 0 := ⟨_, ko_X1.1, tb_all _ [706, 708, 712, 713, 59, 714] (by decide +kernel) (by decide +kernel), nb_in 707 (by decide +kernel) rfl, by decide +kernel⟩
theorem uo_X5_62_X2 : UO RX5 62 2 ⟨"LanguageAtoms$Machine", "startCode", "()I"⟩ MX2_startCode 0 := ⟨_, ko_X2.1, tb_all _ [706, 708, 715, 716, 60, 717] (by decide +kernel) (by decide +kernel), nb_in 707 (by decide +kernel) rfl, by decide +kernel⟩
theorem uo_X5_62_X6 : UO RX5 62 5 ⟨"LanguageAtoms$Machine", "startCode", "()I"⟩ MX6_startCode 0 := ⟨_, ko_X6.1, tb_all _ [706, 708, 723, 724, 58, 725] (by decide +kernel) (by decide +kernel), nb_in 707 (by decide +kernel) rfl, by decide +kernel⟩
theorem uo_X5_62_X9 : UO RX5 62 8 ⟨"LanguageAtoms$Machine", "startCode", "()I"⟩ MX9_startCode 0 := ⟨_, ko_X9.1, tb_all _ [706, 708, 726, 727, 62, 728] (by decide +kernel) (by decide +kernel), nb_in 707 (by decide +kernel) rfl, by decide +kernel⟩
theorem vo_X5_65 : VO RX5 65 4 MX5_numberOf 2 := ⟨_, ko_X5.1, tb_all _ [729, 731, 3, 65, 732] (by decide +kernel) (by decide +kernel), by decide +kernel⟩
theorem uo_X5_69_X0 : UO RX5 69 0 ⟨"LanguageAtoms$Machine", "isAccepting", "(I)Z"⟩ MX0_isAccepting 1 := ⟨_, ko_X0.1, tb_all _ [733, 735, 736, 737, 66, 738] (by decide +kernel) (by decide +kernel), nb_in 734 (by decide +kernel) rfl, by decide +kernel⟩
theorem uo_X5_69_X1 : UO RX5 69 1 ⟨"LanguageAtoms$Machine", "isAccepting", "(I)Z"⟩ MX1_isAccepting 1 := ⟨_, ko_X1.1, tb_all _ [733, 735, 739, 559, 59, 561] (by decide +kernel) (by decide +kernel), nb_in 734 (by decide +kernel) rfl, by decide +kernel⟩
theorem uo_X5_69_X2 : UO RX5 69 2 ⟨"LanguageAtoms$Machine", "isAccepting", "(I)Z"⟩ MX2_isAccepting 1 := ⟨_, ko_X2.1, tb_all _ [733, 735, 740, 741, 60, 742] (by decide +kernel) (by decide +kernel), nb_in 734 (by decide +kernel) rfl, by decide +kernel⟩
theorem uo_X5_69_X6 : UO RX5 69 5 ⟨"LanguageAtoms$Machine", "isAccepting", "(I)Z"⟩ MX6_isAccepting 1 := ⟨_, ko_X6.1, tb_all _ [733, 735, 743, 744, 58, 745] (by decide +kernel) (by decide +kernel), nb_in 734 (by decide +kernel) rfl, by decide +kernel⟩
theorem uo_X5_69_X9 : UO RX5 69 8 ⟨"LanguageAtoms$Machine", "isAccepting", "(I)Z"⟩ MX9_isAccepting 1 := ⟨_, ko_X9.1, tb_all _ [733, 735, 747, 748, 62, 749] (by decide +kernel) (by decide +kernel), nb_in 734 (by decide +kernel) rfl, by decide +kernel⟩
theorem uo_X5_73_X0 : UO RX5 73 0 ⟨"LanguageAtoms$Machine", "follow", "(II)I"⟩ MX0_follow 2 := ⟨_, ko_X0.1, tb_all _ [750, 752, 753, 754, 66, 755] (by decide +kernel) (by decide +kernel), nb_in 751 (by decide +kernel) rfl, by decide +kernel⟩
theorem uo_X5_73_X1 : UO RX5 73 1 ⟨"LanguageAtoms$Machine", "follow", "(II)I"⟩ MX1_follow 2 := ⟨_, ko_X1.1, tb_all _ [750, 752, 760, 581, 59, 583] (by decide +kernel) (by decide +kernel), nb_in 751 (by decide +kernel) rfl, by decide +kernel⟩
theorem uo_X5_73_X2 : UO RX5 73 2 ⟨"LanguageAtoms$Machine", "follow", "(II)I"⟩ MX2_follow 2 := ⟨_, ko_X2.1, tb_all _ [750, 752, 761, 762, 60, 763] (by decide +kernel) (by decide +kernel), nb_in 751 (by decide +kernel) rfl, by decide +kernel⟩
theorem uo_X5_73_X6 : UO RX5 73 5 ⟨"LanguageAtoms$Machine", "follow", "(II)I"⟩ MX6_follow 2 := ⟨_, ko_X6.1, tb_all _ [750, 752, 766, 767, 58, 768] (by decide +kernel) (by decide +kernel), nb_in 751 (by decide +kernel) rfl, by decide +kernel⟩
theorem uo_X5_73_X9 : UO RX5 73 8 ⟨"LanguageAtoms$Machine", "follow", "(II)I"⟩ MX9_follow 2 := ⟨_, ko_X9.1, tb_all _ [750, 752, 770, 771, 62, 772] (by decide +kernel) (by decide +kernel), nb_in 751 (by decide +kernel) rfl, by decide +kernel⟩
theorem vo_X5_76 : VO RX5 76 3 MX3_begin 1 := ⟨_, ko_X3.1, tb_all _ [782, 783, 784, 64, 785] (by decide +kernel) (by decide +kernel), by decide +kernel⟩
theorem vo_X5_84 : VO RX5 84 3 MX3_place 1 := ⟨_, ko_X3.1, tb_all _ [787, 788, 789, 64, 790] (by decide +kernel) (by decide +kernel), by decide +kernel⟩
theorem vo_X5_89 : VO RX5 89 1 MX1_clear 1 := ⟨_, ko_X1.1, tb_all _ [807, 530, 531, 59, 532] (by decide +kernel) (by decide +kernel), by decide +kernel⟩
theorem vo_X5_94 : VO RX5 94 1 MX1_lead 3 := ⟨_, ko_X1.1, tb_all _ [808, 548, 549, 59, 550] (by decide +kernel) (by decide +kernel), by decide +kernel⟩
theorem vo_X5_98 : VO RX5 98 1 MX1_mark 2 := ⟨_, ko_X1.1, tb_all _ [809, 563, 564, 59, 565] (by decide +kernel) (by decide +kernel), by decide +kernel⟩
theorem vo_X5_102 : VO RX5 102 4 MX5_firstWordLength 1 := ⟨_, ko_X5.1, tb_all _ [1098, 1091, 1092, 65, 1093] (by decide +kernel) (by decide +kernel), by decide +kernel⟩
theorem vo_X6_25 : VO RX6 25 1 MX1_follow 2 := ⟨_, ko_X1.1, tb_all _ [769, 581, 582, 59, 583] (by decide +kernel) (by decide +kernel), by decide +kernel⟩
theorem vo_X6_29 : VO RX6 29 1 MX1_isAccepting 1 := ⟨_, ko_X1.1, tb_all _ [746, 559, 560, 59, 561] (by decide +kernel) (by decide +kernel), by decide +kernel⟩
theorem vo_X7_39 : VO RX7 39 1 MX1_isAccepting 1 := ⟨_, ko_X1.1, tb_all _ [1114, 559, 560, 59, 561] (by decide +kernel) (by decide +kernel), by decide +kernel⟩
theorem vo_X7_43 : VO RX7 43 6 MX7_add 1 := ⟨_, ko_X7.1, tb_all _ [1115, 1117, 17, 63, 1118] (by decide +kernel) (by decide +kernel), by decide +kernel⟩
theorem vo_X7_47 : VO RX7 47 6 MX7_lengthen 1 := ⟨_, ko_X7.1, tb_all _ [1119, 1121, 18, 63, 1122] (by decide +kernel) (by decide +kernel), by decide +kernel⟩
theorem vo_X7_53 : VO RX7 53 1 MX1_follow 2 := ⟨_, ko_X1.1, tb_all _ [1123, 581, 582, 59, 583] (by decide +kernel) (by decide +kernel), by decide +kernel⟩
theorem so_X7_57 : SO RX7 57 MX7_floatRest 2 := ⟨tb_all _ [1166, 1167, 63, 1168] (by decide +kernel) (by decide +kernel), by decide +kernel⟩
theorem so_X7_61 : SO RX7 61 MX7_doubleRest 2 := ⟨tb_all _ [1169, 1170, 63, 1171] (by decide +kernel) (by decide +kernel), by decide +kernel⟩
theorem vo_X8_21 : VO RX8 21 1 MX1_follow 2 := ⟨_, ko_X1.1, tb_all _ [836, 581, 582, 59, 583] (by decide +kernel) (by decide +kernel), by decide +kernel⟩
theorem vo_X8_25 : VO RX8 25 7 MX8_joinSingles 2 := ⟨_, ko_X8.1, tb_all _ [837, 839, 8, 61, 840] (by decide +kernel) (by decide +kernel), by decide +kernel⟩
theorem vo_X8_29 : VO RX8 29 7 MX8_of 2 := ⟨_, ko_X8.1, tb_all _ [841, 757, 758, 61, 759] (by decide +kernel) (by decide +kernel), by decide +kernel⟩
theorem vo_X9_25 : VO RX9 25 7 MX8_fillForward 1 := ⟨_, ko_X8.1, tb_all _ [997, 944, 945, 61, 946] (by decide +kernel) (by decide +kernel), by decide +kernel⟩
theorem vo_X9_29 : VO RX9 29 7 MX8_of 2 := ⟨_, ko_X8.1, tb_all _ [773, 757, 758, 61, 759] (by decide +kernel) (by decide +kernel), by decide +kernel⟩
theorem so_X12_102 : SO RX12 102 MX12_in 3 := ⟨tb_all _ [1327, 1328, 67, 1329] (by decide +kernel) (by decide +kernel), by decide +kernel⟩
theorem so_X12_106 : SO RX12 106 MX12_isRegister 1 := ⟨tb_all _ [1324, 1325, 67, 1326] (by decide +kernel) (by decide +kernel), by decide +kernel⟩
theorem so_X12_110 : SO RX12 110 MX12_place 3 := ⟨tb_all _ [1334, 1335, 67, 1336] (by decide +kernel) (by decide +kernel), by decide +kernel⟩
theorem vo_X12_114 : VO RX12 114 11 MX12_clears 2 := ⟨_, ko_X12.1, tb_all _ [1330, 1332, 19, 67, 1333] (by decide +kernel) (by decide +kernel), by decide +kernel⟩
theorem vo_X12_118 : VO RX12 118 11 MX12_isState 2 := ⟨_, ko_X12.1, tb_all _ [1341, 1343, 20, 67, 1344] (by decide +kernel) (by decide +kernel), by decide +kernel⟩
theorem so_X12_122 : SO RX12 122 MX12_isLetter 1 := ⟨tb_all _ [1345, 1346, 67, 1347] (by decide +kernel) (by decide +kernel), by decide +kernel⟩
theorem vo_X12_125 : VO RX12 125 11 MX12_not 1 := ⟨_, ko_X12.1, tb_all _ [1352, 1354, 21, 67, 1355] (by decide +kernel) (by decide +kernel), by decide +kernel⟩
theorem vo_X12_128 : VO RX12 128 11 MX12_so 1 := ⟨_, ko_X12.1, tb_all _ [1356, 1358, 22, 67, 1359] (by decide +kernel) (by decide +kernel), by decide +kernel⟩
theorem vo_X12_132 : VO RX12 132 11 MX12_done 1 := ⟨_, ko_X12.1, tb_all _ [1364, 1366, 23, 67, 1367] (by decide +kernel) (by decide +kernel), by decide +kernel⟩
theorem vo_X12_136 : VO RX12 136 11 MX12_fails 1 := ⟨_, ko_X12.1, tb_all _ [1368, 1370, 24, 67, 1371] (by decide +kernel) (by decide +kernel), by decide +kernel⟩
theorem vo_X12_143 : VO RX12 143 11 MX12_draw 1 := ⟨_, ko_X12.1, tb_all _ [1384, 1386, 25, 67, 1387] (by decide +kernel) (by decide +kernel), by decide +kernel⟩
theorem vo_X12_149 : VO RX12 149 11 MX12_stateBy 2 := ⟨_, ko_X12.1, tb_all _ [1409, 1411, 26, 67, 1412] (by decide +kernel) (by decide +kernel), by decide +kernel⟩
theorem vo_X12_159 : VO RX12 159 11 MX12_concatenated 2 := ⟨_, ko_X12.1, tb_all _ [1425, 1427, 29, 67, 1428] (by decide +kernel) (by decide +kernel), by decide +kernel⟩
theorem vo_X12_165 : VO RX12 165 11 MX12_finalStates 0 := ⟨_, ko_X12.1, tb_all _ [1430, 1432, 30, 67, 1433] (by decide +kernel) (by decide +kernel), by decide +kernel⟩
theorem so_X12_181 : SO RX12 181 MX12_led 4 := ⟨tb_all _ [1443, 1444, 67, 1445] (by decide +kernel) (by decide +kernel), by decide +kernel⟩
theorem vo_X12_185 : VO RX12 185 11 MX12_starAfter 2 := ⟨_, ko_X12.1, tb_all _ [1446, 1448, 33, 67, 1449] (by decide +kernel) (by decide +kernel), by decide +kernel⟩
theorem vo_X12_189 : VO RX12 189 11 MX12_ledBack 2 := ⟨_, ko_X12.1, tb_all _ [1450, 1452, 34, 67, 1453] (by decide +kernel) (by decide +kernel), by decide +kernel⟩
theorem vo_X12_192 : VO RX12 192 11 MX12_atomsAfter 2 := ⟨_, ko_X12.1, tb_all _ [1454, 1456, 35, 67, 1457] (by decide +kernel) (by decide +kernel), by decide +kernel⟩
theorem vo_X12_198 : VO RX12 198 11 MX12_hasFinal 2 := ⟨_, ko_X12.1, tb_all _ [1462, 1464, 37, 67, 1465] (by decide +kernel) (by decide +kernel), by decide +kernel⟩
theorem vo_X12_205 : VO RX12 205 11 MX12_firstKey 0 := ⟨_, ko_X12.1, tb_all _ [1421, 1423, 28, 67, 1424] (by decide +kernel) (by decide +kernel), by decide +kernel⟩
theorem vo_X12_208 : VO RX12 208 11 MX12_nodeOf 1 := ⟨_, ko_X12.1, tb_all _ [1434, 1436, 31, 67, 1437] (by decide +kernel) (by decide +kernel), by decide +kernel⟩
theorem vo_X12_212 : VO RX12 212 11 MX12_keyAfter 2 := ⟨_, ko_X12.1, tb_all _ [1438, 1440, 32, 67, 1441] (by decide +kernel) (by decide +kernel), by decide +kernel⟩
theorem vo_X12_215 : VO RX12 215 11 MX12_isEnd 1 := ⟨_, ko_X12.1, tb_all _ [1458, 1460, 36, 67, 1461] (by decide +kernel) (by decide +kernel), by decide +kernel⟩
theorem vo_X12_219 : VO RX12 219 11 MX12_parts 0 := ⟨_, ko_X12.1, tb_all _ [1466, 1468, 38, 67, 1469] (by decide +kernel) (by decide +kernel), by decide +kernel⟩
theorem vo_X12_225 : VO RX12 225 11 MX12_isAlike 2 := ⟨_, ko_X12.1, tb_all _ [1470, 1472, 39, 67, 1473] (by decide +kernel) (by decide +kernel), by decide +kernel⟩
theorem vo_X12_228 : VO RX12 228 11 MX12_nodeOfClass 1 := ⟨_, ko_X12.1, tb_all _ [1482, 1484, 41, 67, 1485] (by decide +kernel) (by decide +kernel), by decide +kernel⟩
theorem vo_X12_231 : VO RX12 231 11 MX12_makes 3 := ⟨_, ko_X12.1, tb_all _ [1417, 1419, 27, 67, 1420] (by decide +kernel) (by decide +kernel), by decide +kernel⟩
theorem vo_X12_235 : VO RX12 235 11 MX12_stores 1 := ⟨_, ko_X12.1, tb_all _ [1478, 1480, 40, 67, 1481] (by decide +kernel) (by decide +kernel), by decide +kernel⟩
theorem vo_X12_241 : VO RX12 241 11 MX12_ofStates 1 := ⟨_, ko_X12.1, tb_all _ [1498, 1500, 43, 67, 1501] (by decide +kernel) (by decide +kernel), by decide +kernel⟩
theorem vo_X12_244 : VO RX12 244 11 MX12_tellAtoms 1 := ⟨_, ko_X12.1, tb_all _ [1494, 1496, 42, 67, 1497] (by decide +kernel) (by decide +kernel), by decide +kernel⟩
theorem vo_X12_248 : VO RX12 248 11 MX12_isAtom 1 := ⟨_, ko_X12.1, tb_all _ [1506, 1508, 44, 67, 1509] (by decide +kernel) (by decide +kernel), by decide +kernel⟩
theorem vo_X12_251 : VO RX12 251 11 MX12_numberOf 1 := ⟨_, ko_X12.1, tb_all _ [1514, 1516, 45, 67, 1517] (by decide +kernel) (by decide +kernel), by decide +kernel⟩
theorem vo_X12_254 : VO RX12 254 11 MX12_setAhead 3 := ⟨_, ko_X12.1, tb_all _ [1526, 1528, 47, 67, 1529] (by decide +kernel) (by decide +kernel), by decide +kernel⟩
theorem vo_X12_257 : VO RX12 257 11 MX12_tellAtomMachine 1 := ⟨_, ko_X12.1, tb_all _ [1522, 1524, 46, 67, 1525] (by decide +kernel) (by decide +kernel), by decide +kernel⟩
theorem vo_X12_260 : VO RX12 260 11 MX12_firstWord 0 := ⟨_, ko_X12.1, tb_all _ [1542, 1544, 48, 67, 1545] (by decide +kernel) (by decide +kernel), by decide +kernel⟩
theorem vo_X12_264 : VO RX12 264 11 MX12_isSmall 0 := ⟨_, ko_X12.1, tb_all _ [1574, 1576, 49, 67, 1577] (by decide +kernel) (by decide +kernel), by decide +kernel⟩
theorem vo_X12_271 : VO RX12 271 11 MX12_finalsOf 1 := ⟨_, ko_X12.1, tb_all _ [1582, 1584, 50, 67, 1585] (by decide +kernel) (by decide +kernel), by decide +kernel⟩
theorem vo_X12_274 : VO RX12 274 11 MX12_meets 2 := ⟨_, ko_X12.1, tb_all _ [1586, 1588, 51, 67, 1589] (by decide +kernel) (by decide +kernel), by decide +kernel⟩
theorem vo_X12_277 : VO RX12 277 11 MX12_backFrom 3 := ⟨_, ko_X12.1, tb_all _ [1590, 1592, 52, 67, 1593] (by decide +kernel) (by decide +kernel), by decide +kernel⟩
theorem vo_X12_282 : VO RX12 282 11 MX12_shareOf 2 := ⟨_, ko_X12.1, tb_all _ [1602, 1604, 53, 67, 1605] (by decide +kernel) (by decide +kernel), by decide +kernel⟩
theorem kc_X1_51 : Cond.constant RX1 51 (1103515245) ∈ TB := tb_in 605 (by decide +kernel) (by decide +kernel)
theorem kc_X5_82 : Cond.constantLong RX5 82 (384) ∈ TB := tb_in 786 (by decide +kernel) (by decide +kernel)
theorem kc_X3_26 : Cond.constantLong RX3 26 (-7046029254386353131) ∈ TB := tb_in 791 (by decide +kernel) (by decide +kernel)
theorem kc_J13_314 : Cond.constantLong RJ13 314 (6148914691236517205) ∈ TB := tb_in 880 (by decide +kernel) (by decide +kernel)
theorem kc_J13_316 : Cond.constantLong RJ13 316 (3689348814741910323) ∈ TB := tb_in 881 (by decide +kernel) (by decide +kernel)
theorem kc_J13_318 : Cond.constantLong RJ13 318 (1085102592571150095) ∈ TB := tb_in 882 (by decide +kernel) (by decide +kernel)
theorem kc_X0_147 : Cond.constantLong RX0 147 (-1) ∈ TB := tb_in 955 (by decide +kernel) (by decide +kernel)
theorem kc_X7_51 : Cond.constantLong RX7 51 (3) ∈ TB := tb_in 1124 (by decide +kernel) (by decide +kernel)
theorem kc_X12_142 : Cond.constant RX12 142 (1103515245) ∈ TB := tb_in 1388 (by decide +kernel) (by decide +kernel)
theorem kc_X12_163 : Cond.constantLong RX12 163 (64) ∈ TB := tb_in 1429 (by decide +kernel) (by decide +kernel)
theorem kc_X12_176 : Cond.constantLong RX12 176 (7) ∈ TB := tb_in 1442 (by decide +kernel) (by decide +kernel)
theorem kc_X12_280 : Cond.constantLong RX12 280 (3) ∈ TB := tb_in 1606 (by decide +kernel) (by decide +kernel)
theorem kc_L_238 : Cond.constantLong RL 238 (4294967295) ∈ TB := tb_in 1623 (by decide +kernel) (by decide +kernel)
