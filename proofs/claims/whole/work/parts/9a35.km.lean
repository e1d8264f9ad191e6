theorem ko_RX12_1 : Cond.methodLink RX12 1 Lib.objectInit ∈ gws := gw 1243 (by decide +kernel) (by decide +kernel)
theorem mo_i : Cond.instanceMethod Lib.objectInit ∈ gws := gw 150 (by decide +kernel) (by decide +kernel)
theorem mo_c : Cond.code Lib.objectInit ⟨#[0xb1]⟩ 1 none ∈ gws := gwc 151 (by decide +kernel) (by decide +kernel)
theorem mA_int : Cond.arrayClass .int ∈ gws := gw 172 (by decide +kernel) (by decide +kernel)
theorem fk_RX12_7 : FL vwCl RX12 7 11 0 := ⟨RX12, TX12, 70, rfl, by decide, mw_lays, gw 1244 (by decide +kernel) (by decide +kernel)⟩
theorem kf_RX12_0 : FWF vwCl RX12 11 0 (.array .int) := ⟨RX12, TX12, 70, rfl, by decide +kernel, by decide +kernel, by decide +kernel⟩
theorem fk_RX12_13 : FL vwCl RX12 13 11 1 := ⟨RX12, TX12, 70, rfl, by decide, mw_lays, gw 1245 (by decide +kernel) (by decide +kernel)⟩
theorem fk_RX12_17 : FL vwCl RX12 17 11 2 := ⟨RX12, TX12, 70, rfl, by decide, mw_lays, gw 1246 (by decide +kernel) (by decide +kernel)⟩
theorem fk_RX12_20 : FL vwCl RX12 20 11 3 := ⟨RX12, TX12, 70, rfl, by decide, mw_lays, gw 1247 (by decide +kernel) (by decide +kernel)⟩
theorem fk_RX12_23 : FL vwCl RX12 23 11 4 := ⟨RX12, TX12, 70, rfl, by decide, mw_lays, gw 1248 (by decide +kernel) (by decide +kernel)⟩
theorem fk_RX12_26 : FL vwCl RX12 26 11 5 := ⟨RX12, TX12, 70, rfl, by decide, mw_lays, gw 1249 (by decide +kernel) (by decide +kernel)⟩
theorem fk_RX12_29 : FL vwCl RX12 29 11 6 := ⟨RX12, TX12, 70, rfl, by decide, mw_lays, gw 1250 (by decide +kernel) (by decide +kernel)⟩
theorem fk_RX12_32 : FL vwCl RX12 32 11 7 := ⟨RX12, TX12, 70, rfl, by decide, mw_lays, gw 1251 (by decide +kernel) (by decide +kernel)⟩
theorem fk_RX12_36 : FL vwCl RX12 36 11 8 := ⟨RX12, TX12, 70, rfl, by decide, mw_lays, gw 1252 (by decide +kernel) (by decide +kernel)⟩
theorem fk_RX12_39 : FL vwCl RX12 39 11 9 := ⟨RX12, TX12, 70, rfl, by decide, mw_lays, gw 1253 (by decide +kernel) (by decide +kernel)⟩
theorem fk_RX12_42 : FL vwCl RX12 42 11 10 := ⟨RX12, TX12, 70, rfl, by decide, mw_lays, gw 1254 (by decide +kernel) (by decide +kernel)⟩
theorem fk_RX12_45 : FL vwCl RX12 45 11 11 := ⟨RX12, TX12, 70, rfl, by decide, mw_lays, gw 1255 (by decide +kernel) (by decide +kernel)⟩
theorem fk_RX12_48 : FL vwCl RX12 48 11 12 := ⟨RX12, TX12, 70, rfl, by decide, mw_lays, gw 1256 (by decide +kernel) (by decide +kernel)⟩
theorem fk_RX12_51 : FL vwCl RX12 51 11 13 := ⟨RX12, TX12, 70, rfl, by decide, mw_lays, gw 1257 (by decide +kernel) (by decide +kernel)⟩
theorem fk_RX12_54 : FL vwCl RX12 54 11 14 := ⟨RX12, TX12, 70, rfl, by decide, mw_lays, gw 1258 (by decide +kernel) (by decide +kernel)⟩
theorem kf_RX12_14 : FWF vwCl RX12 11 14 (.array .int) := ⟨RX12, TX12, 70, rfl, by decide +kernel, by decide +kernel, by decide +kernel⟩
theorem fk_RX12_57 : FL vwCl RX12 57 11 15 := ⟨RX12, TX12, 70, rfl, by decide, mw_lays, gw 1259 (by decide +kernel) (by decide +kernel)⟩
theorem kf_RX12_15 : FWF vwCl RX12 11 15 (.array .int) := ⟨RX12, TX12, 70, rfl, by decide +kernel, by decide +kernel, by decide +kernel⟩
theorem fk_RX12_60 : FL vwCl RX12 60 11 16 := ⟨RX12, TX12, 70, rfl, by decide, mw_lays, gw 1260 (by decide +kernel) (by decide +kernel)⟩
theorem kf_RX12_16 : FWF vwCl RX12 11 16 (.array .int) := ⟨RX12, TX12, 70, rfl, by decide +kernel, by decide +kernel, by decide +kernel⟩
theorem fk_RX12_63 : FL vwCl RX12 63 11 17 := ⟨RX12, TX12, 70, rfl, by decide, mw_lays, gw 1261 (by decide +kernel) (by decide +kernel)⟩
theorem kf_RX12_17 : FWF vwCl RX12 11 17 (.array .int) := ⟨RX12, TX12, 70, rfl, by decide +kernel, by decide +kernel, by decide +kernel⟩
theorem fk_RX12_66 : FL vwCl RX12 66 11 18 := ⟨RX12, TX12, 70, rfl, by decide, mw_lays, gw 1262 (by decide +kernel) (by decide +kernel)⟩
theorem kf_RX12_18 : FWF vwCl RX12 11 18 (.array .int) := ⟨RX12, TX12, 70, rfl, by decide +kernel, by decide +kernel, by decide +kernel⟩
theorem fk_RX12_69 : FL vwCl RX12 69 11 19 := ⟨RX12, TX12, 70, rfl, by decide, mw_lays, gw 1263 (by decide +kernel) (by decide +kernel)⟩
theorem kf_RX12_19 : FWF vwCl RX12 11 19 (.array .int) := ⟨RX12, TX12, 70, rfl, by decide +kernel, by decide +kernel, by decide +kernel⟩
theorem fk_RX12_72 : FL vwCl RX12 72 11 20 := ⟨RX12, TX12, 70, rfl, by decide, mw_lays, gw 1264 (by decide +kernel) (by decide +kernel)⟩
theorem kf_RX12_20 : FWF vwCl RX12 11 20 (.array .int) := ⟨RX12, TX12, 70, rfl, by decide +kernel, by decide +kernel, by decide +kernel⟩
theorem fk_RX12_75 : FL vwCl RX12 75 11 21 := ⟨RX12, TX12, 70, rfl, by decide, mw_lays, gw 1265 (by decide +kernel) (by decide +kernel)⟩
theorem kf_RX12_21 : FWF vwCl RX12 11 21 (.array .int) := ⟨RX12, TX12, 70, rfl, by decide +kernel, by decide +kernel, by decide +kernel⟩
theorem fk_RX12_78 : FL vwCl RX12 78 11 22 := ⟨RX12, TX12, 70, rfl, by decide, mw_lays, gw 1266 (by decide +kernel) (by decide +kernel)⟩
theorem kf_RX12_22 : FWF vwCl RX12 11 22 (.array .int) := ⟨RX12, TX12, 70, rfl, by decide +kernel, by decide +kernel, by decide +kernel⟩
theorem fk_RX12_81 : FL vwCl RX12 81 11 23 := ⟨RX12, TX12, 70, rfl, by decide, mw_lays, gw 1267 (by decide +kernel) (by decide +kernel)⟩
theorem kf_RX12_23 : FWF vwCl RX12 11 23 (.array .int) := ⟨RX12, TX12, 70, rfl, by decide +kernel, by decide +kernel, by decide +kernel⟩
theorem fk_RX12_84 : FL vwCl RX12 84 11 24 := ⟨RX12, TX12, 70, rfl, by decide, mw_lays, gw 1268 (by decide +kernel) (by decide +kernel)⟩
theorem kf_RX12_24 : FWF vwCl RX12 11 24 (.array .int) := ⟨RX12, TX12, 70, rfl, by decide +kernel, by decide +kernel, by decide +kernel⟩
theorem fk_RX12_87 : FL vwCl RX12 87 11 25 := ⟨RX12, TX12, 70, rfl, by decide, mw_lays, gw 1269 (by decide +kernel) (by decide +kernel)⟩
theorem kf_RX12_25 : FWF vwCl RX12 11 25 (.array .int) := ⟨RX12, TX12, 70, rfl, by decide +kernel, by decide +kernel, by decide +kernel⟩
theorem fk_RX12_90 : FL vwCl RX12 90 11 26 := ⟨RX12, TX12, 70, rfl, by decide, mw_lays, gw 1270 (by decide +kernel) (by decide +kernel)⟩
theorem kf_RX12_26 : FWF vwCl RX12 11 26 (.array .int) := ⟨RX12, TX12, 70, rfl, by decide +kernel, by decide +kernel, by decide +kernel⟩
theorem fk_RX12_93 : FL vwCl RX12 93 11 27 := ⟨RX12, TX12, 70, rfl, by decide, mw_lays, gw 1271 (by decide +kernel) (by decide +kernel)⟩
theorem kf_RX12_27 : FWF vwCl RX12 11 27 (.array .int) := ⟨RX12, TX12, 70, rfl, by decide +kernel, by decide +kernel, by decide +kernel⟩
theorem mA_long : Cond.arrayClass .long ∈ gws := gw 1455 (by decide +kernel) (by decide +kernel)
theorem fk_RX12_96 : FL vwCl RX12 96 11 28 := ⟨RX12, TX12, 70, rfl, by decide, mw_lays, gw 1272 (by decide +kernel) (by decide +kernel)⟩
theorem kf_RX12_28 : FWF vwCl RX12 11 28 (.array .long) := ⟨RX12, TX12, 70, rfl, by decide +kernel, by decide +kernel, by decide +kernel⟩
theorem fk_RX12_100 : FL vwCl RX12 100 11 29 := ⟨RX12, TX12, 70, rfl, by decide, mw_lays, gw 1273 (by decide +kernel) (by decide +kernel)⟩
theorem kf_RX12_29 : FWF vwCl RX12 11 29 (.array .long) := ⟨RX12, TX12, 70, rfl, by decide +kernel, by decide +kernel, by decide +kernel⟩
theorem fk_RX12_103 : FL vwCl RX12 103 11 30 := ⟨RX12, TX12, 70, rfl, by decide, mw_lays, gw 1274 (by decide +kernel) (by decide +kernel)⟩
theorem fk_RX12_106 : FL vwCl RX12 106 11 31 := ⟨RX12, TX12, 70, rfl, by decide, mw_lays, gw 1275 (by decide +kernel) (by decide +kernel)⟩
theorem fk_RX12_109 : FL vwCl RX12 109 11 32 := ⟨RX12, TX12, 70, rfl, by decide, mw_lays, gw 1276 (by decide +kernel) (by decide +kernel)⟩
theorem fk_RX12_112 : FL vwCl RX12 112 11 33 := ⟨RX12, TX12, 70, rfl, by decide, mw_lays, gw 1277 (by decide +kernel) (by decide +kernel)⟩
theorem kf_RX12_33 : FWF vwCl RX12 11 33 (.array .int) := ⟨RX12, TX12, 70, rfl, by decide +kernel, by decide +kernel, by decide +kernel⟩
theorem fk_RX12_115 : FL vwCl RX12 115 11 34 := ⟨RX12, TX12, 70, rfl, by decide, mw_lays, gw 1278 (by decide +kernel) (by decide +kernel)⟩
theorem kf_RX12_34 : FWF vwCl RX12 11 34 (.array .int) := ⟨RX12, TX12, 70, rfl, by decide +kernel, by decide +kernel, by decide +kernel⟩
theorem mA_boolean : Cond.arrayClass .boolean ∈ gws := gw 1456 (by decide +kernel) (by decide +kernel)
theorem fk_RX12_118 : FL vwCl RX12 118 11 35 := ⟨RX12, TX12, 70, rfl, by decide, mw_lays, gw 1279 (by decide +kernel) (by decide +kernel)⟩
theorem kf_RX12_35 : FWF vwCl RX12 11 35 (.array .boolean) := ⟨RX12, TX12, 70, rfl, by decide +kernel, by decide +kernel, by decide +kernel⟩
theorem fk_RX12_122 : FL vwCl RX12 122 11 36 := ⟨RX12, TX12, 70, rfl, by decide, mw_lays, gw 1280 (by decide +kernel) (by decide +kernel)⟩
theorem kf_RX12_36 : FWF vwCl RX12 11 36 (.array .int) := ⟨RX12, TX12, 70, rfl, by decide +kernel, by decide +kernel, by decide +kernel⟩
theorem fk_RX12_125 : FL vwCl RX12 125 11 37 := ⟨RX12, TX12, 70, rfl, by decide, mw_lays, gw 1281 (by decide +kernel) (by decide +kernel)⟩
theorem kf_RX12_37 : FWF vwCl RX12 11 37 (.array .int) := ⟨RX12, TX12, 70, rfl, by decide +kernel, by decide +kernel, by decide +kernel⟩
theorem fk_RX12_128 : FL vwCl RX12 128 11 38 := ⟨RX12, TX12, 70, rfl, by decide, mw_lays, gw 1282 (by decide +kernel) (by decide +kernel)⟩
theorem fk_RX12_131 : FL vwCl RX12 131 11 39 := ⟨RX12, TX12, 70, rfl, by decide, mw_lays, gw 1283 (by decide +kernel) (by decide +kernel)⟩
theorem fk_RX12_134 : FL vwCl RX12 134 11 40 := ⟨RX12, TX12, 70, rfl, by decide, mw_lays, gw 1284 (by decide +kernel) (by decide +kernel)⟩
theorem kf_RX12_40 : FWF vwCl RX12 11 40 (.array .int) := ⟨RX12, TX12, 70, rfl, by decide +kernel, by decide +kernel, by decide +kernel⟩
theorem fk_RX12_137 : FL vwCl RX12 137 11 41 := ⟨RX12, TX12, 70, rfl, by decide, mw_lays, gw 1285 (by decide +kernel) (by decide +kernel)⟩
theorem fk_RX12_140 : FL vwCl RX12 140 11 42 := ⟨RX12, TX12, 70, rfl, by decide, mw_lays, gw 1286 (by decide +kernel) (by decide +kernel)⟩
theorem fk_RX12_144 : FL vwCl RX12 144 11 43 := ⟨RX12, TX12, 70, rfl, by decide, mw_lays, gw 1287 (by decide +kernel) (by decide +kernel)⟩
theorem kf_RX12_43 : FWF vwCl RX12 11 43 (.array .int) := ⟨RX12, TX12, 70, rfl, by decide +kernel, by decide +kernel, by decide +kernel⟩
theorem fk_RX12_147 : FL vwCl RX12 147 11 44 := ⟨RX12, TX12, 70, rfl, by decide, mw_lays, gw 1288 (by decide +kernel) (by decide +kernel)⟩
theorem kf_RX12_44 : FWF vwCl RX12 11 44 (.array .int) := ⟨RX12, TX12, 70, rfl, by decide +kernel, by decide +kernel, by decide +kernel⟩
theorem fk_RX12_150 : FL vwCl RX12 150 11 45 := ⟨RX12, TX12, 70, rfl, by decide, mw_lays, gw 1289 (by decide +kernel) (by decide +kernel)⟩
theorem kf_RX12_45 : FWF vwCl RX12 11 45 (.array .int) := ⟨RX12, TX12, 70, rfl, by decide +kernel, by decide +kernel, by decide +kernel⟩
theorem fk_RX12_153 : FL vwCl RX12 153 11 46 := ⟨RX12, TX12, 70, rfl, by decide, mw_lays, gw 1290 (by decide +kernel) (by decide +kernel)⟩
theorem kf_RX12_46 : FWF vwCl RX12 11 46 (.array .int) := ⟨RX12, TX12, 70, rfl, by decide +kernel, by decide +kernel, by decide +kernel⟩
theorem fk_RX12_156 : FL vwCl RX12 156 11 47 := ⟨RX12, TX12, 70, rfl, by decide, mw_lays, gw 1291 (by decide +kernel) (by decide +kernel)⟩
theorem kf_RX12_47 : FWF vwCl RX12 11 47 (.array .int) := ⟨RX12, TX12, 70, rfl, by decide +kernel, by decide +kernel, by decide +kernel⟩
theorem fk_RX12_159 : FL vwCl RX12 159 11 48 := ⟨RX12, TX12, 70, rfl, by decide, mw_lays, gw 1292 (by decide +kernel) (by decide +kernel)⟩
theorem kf_RX12_48 : FWF vwCl RX12 11 48 (.array .int) := ⟨RX12, TX12, 70, rfl, by decide +kernel, by decide +kernel, by decide +kernel⟩
theorem fk_RX12_162 : FL vwCl RX12 162 11 49 := ⟨RX12, TX12, 70, rfl, by decide, mw_lays, gw 1293 (by decide +kernel) (by decide +kernel)⟩
theorem kf_RX12_49 : FWF vwCl RX12 11 49 (.array .int) := ⟨RX12, TX12, 70, rfl, by decide +kernel, by decide +kernel, by decide +kernel⟩
theorem fk_RX12_165 : FL vwCl RX12 165 11 50 := ⟨RX12, TX12, 70, rfl, by decide, mw_lays, gw 1294 (by decide +kernel) (by decide +kernel)⟩
theorem kf_RX12_50 : FWF vwCl RX12 11 50 (.array .int) := ⟨RX12, TX12, 70, rfl, by decide +kernel, by decide +kernel, by decide +kernel⟩
theorem fk_RX12_168 : FL vwCl RX12 168 11 51 := ⟨RX12, TX12, 70, rfl, by decide, mw_lays, gw 1295 (by decide +kernel) (by decide +kernel)⟩
theorem kf_RX12_51 : FWF vwCl RX12 11 51 (.array .int) := ⟨RX12, TX12, 70, rfl, by decide +kernel, by decide +kernel, by decide +kernel⟩
theorem fk_RX12_171 : FL vwCl RX12 171 11 52 := ⟨RX12, TX12, 70, rfl, by decide, mw_lays, gw 1296 (by decide +kernel) (by decide +kernel)⟩
theorem kf_RX12_52 : FWF vwCl RX12 11 52 (.array .int) := ⟨RX12, TX12, 70, rfl, by decide +kernel, by decide +kernel, by decide +kernel⟩
theorem fk_RX12_174 : FL vwCl RX12 174 11 53 := ⟨RX12, TX12, 70, rfl, by decide, mw_lays, gw 1297 (by decide +kernel) (by decide +kernel)⟩
theorem kf_RX12_53 : FWF vwCl RX12 11 53 (.array .int) := ⟨RX12, TX12, 70, rfl, by decide +kernel, by decide +kernel, by decide +kernel⟩
theorem fk_RX12_177 : FL vwCl RX12 177 11 54 := ⟨RX12, TX12, 70, rfl, by decide, mw_lays, gw 1298 (by decide +kernel) (by decide +kernel)⟩
theorem kf_RX12_54 : FWF vwCl RX12 11 54 (.array .int) := ⟨RX12, TX12, 70, rfl, by decide +kernel, by decide +kernel, by decide +kernel⟩
theorem fk_RX12_180 : FL vwCl RX12 180 11 55 := ⟨RX12, TX12, 70, rfl, by decide, mw_lays, gw 1299 (by decide +kernel) (by decide +kernel)⟩
theorem kf_RX12_55 : FWF vwCl RX12 11 55 (.array .int) := ⟨RX12, TX12, 70, rfl, by decide +kernel, by decide +kernel, by decide +kernel⟩
theorem fk_RX12_183 : FL vwCl RX12 183 11 56 := ⟨RX12, TX12, 70, rfl, by decide, mw_lays, gw 1300 (by decide +kernel) (by decide +kernel)⟩
theorem fk_RX12_186 : FL vwCl RX12 186 11 57 := ⟨RX12, TX12, 70, rfl, by decide, mw_lays, gw 1301 (by decide +kernel) (by decide +kernel)⟩
theorem fk_RX12_189 : FL vwCl RX12 189 11 58 := ⟨RX12, TX12, 70, rfl, by decide, mw_lays, gw 1302 (by decide +kernel) (by decide +kernel)⟩
theorem fk_RX12_192 : FL vwCl RX12 192 11 59 := ⟨RX12, TX12, 70, rfl, by decide, mw_lays, gw 1303 (by decide +kernel) (by decide +kernel)⟩
theorem kf_RX12_59 : FWF vwCl RX12 11 59 (.array .long) := ⟨RX12, TX12, 70, rfl, by decide +kernel, by decide +kernel, by decide +kernel⟩
theorem fk_RX12_195 : FL vwCl RX12 195 11 60 := ⟨RX12, TX12, 70, rfl, by decide, mw_lays, gw 1304 (by decide +kernel) (by decide +kernel)⟩
theorem kf_RX12_60 : FWF vwCl RX12 11 60 (.array .int) := ⟨RX12, TX12, 70, rfl, by decide +kernel, by decide +kernel, by decide +kernel⟩
theorem fk_RX12_198 : FL vwCl RX12 198 11 61 := ⟨RX12, TX12, 70, rfl, by decide, mw_lays, gw 1305 (by decide +kernel) (by decide +kernel)⟩
theorem kf_RX12_61 : FWF vwCl RX12 11 61 (.array .int) := ⟨RX12, TX12, 70, rfl, by decide +kernel, by decide +kernel, by decide +kernel⟩
theorem fk_RX12_201 : FL vwCl RX12 201 11 62 := ⟨RX12, TX12, 70, rfl, by decide, mw_lays, gw 1306 (by decide +kernel) (by decide +kernel)⟩
theorem kf_RX12_62 : FWF vwCl RX12 11 62 (.array .int) := ⟨RX12, TX12, 70, rfl, by decide +kernel, by decide +kernel, by decide +kernel⟩
theorem fk_RX12_204 : FL vwCl RX12 204 11 63 := ⟨RX12, TX12, 70, rfl, by decide, mw_lays, gw 1307 (by decide +kernel) (by decide +kernel)⟩
theorem fk_RX12_207 : FL vwCl RX12 207 11 64 := ⟨RX12, TX12, 70, rfl, by decide, mw_lays, gw 1308 (by decide +kernel) (by decide +kernel)⟩
theorem kf_RX12_64 : FWF vwCl RX12 11 64 (.array .int) := ⟨RX12, TX12, 70, rfl, by decide +kernel, by decide +kernel, by decide +kernel⟩
theorem fk_RX12_210 : FL vwCl RX12 210 11 65 := ⟨RX12, TX12, 70, rfl, by decide, mw_lays, gw 1309 (by decide +kernel) (by decide +kernel)⟩
theorem kf_RX12_65 : FWF vwCl RX12 11 65 (.array .int) := ⟨RX12, TX12, 70, rfl, by decide +kernel, by decide +kernel, by decide +kernel⟩
theorem fk_RX12_213 : FL vwCl RX12 213 11 66 := ⟨RX12, TX12, 70, rfl, by decide, mw_lays, gw 1310 (by decide +kernel) (by decide +kernel)⟩
theorem kf_RX12_66 : FWF vwCl RX12 11 66 (.array .int) := ⟨RX12, TX12, 70, rfl, by decide +kernel, by decide +kernel, by decide +kernel⟩
theorem fk_RX12_216 : FL vwCl RX12 216 11 67 := ⟨RX12, TX12, 70, rfl, by decide, mw_lays, gw 1311 (by decide +kernel) (by decide +kernel)⟩
theorem kf_RX12_67 : FWF vwCl RX12 11 67 (.array .int) := ⟨RX12, TX12, 70, rfl, by decide +kernel, by decide +kernel, by decide +kernel⟩
theorem fk_RX12_219 : FL vwCl RX12 219 11 68 := ⟨RX12, TX12, 70, rfl, by decide, mw_lays, gw 1312 (by decide +kernel) (by decide +kernel)⟩
theorem kf_RX12_68 : FWF vwCl RX12 11 68 (.array .int) := ⟨RX12, TX12, 70, rfl, by decide +kernel, by decide +kernel, by decide +kernel⟩
theorem fk_RX12_222 : FL vwCl RX12 222 11 69 := ⟨RX12, TX12, 70, rfl, by decide, mw_lays, gw 1313 (by decide +kernel) (by decide +kernel)⟩
theorem dX12_init_0 : decode cX12_init 0 = .ok (.aload_n 0, 1) := by decide +kernel
theorem dX12_init_1 : decode cX12_init 1 = .ok (.invokespecial 1, 3) := by decide +kernel
theorem dX12_init_4 : decode cX12_init 4 = .ok (.aload_n 0, 1) := by decide +kernel
theorem dX12_init_5 : decode cX12_init 5 = .ok (.sipush 1800, 3) := by decide +kernel
theorem dX12_init_8 : decode cX12_init 8 = .ok (.newarray .int, 2) := by decide +kernel
theorem dX12_init_10 : decode cX12_init 10 = .ok (.putfield 7, 3) := by decide +kernel
theorem dX12_init_13 : decode cX12_init 13 = .ok (.aload_n 0, 1) := by decide +kernel
theorem dX12_init_14 : decode cX12_init 14 = .ok (.iconst 0, 1) := by decide +kernel
theorem dX12_init_15 : decode cX12_init 15 = .ok (.putfield 13, 3) := by decide +kernel
theorem dX12_init_18 : decode cX12_init 18 = .ok (.aload_n 0, 1) := by decide +kernel
theorem dX12_init_19 : decode cX12_init 19 = .ok (.iconst 0, 1) := by decide +kernel
theorem dX12_init_20 : decode cX12_init 20 = .ok (.putfield 17, 3) := by decide +kernel
theorem dX12_init_23 : decode cX12_init 23 = .ok (.aload_n 0, 1) := by decide +kernel
theorem dX12_init_24 : decode cX12_init 24 = .ok (.iconst 0, 1) := by decide +kernel
theorem dX12_init_25 : decode cX12_init 25 = .ok (.putfield 20, 3) := by decide +kernel
theorem dX12_init_28 : decode cX12_init 28 = .ok (.aload_n 0, 1) := by decide +kernel
theorem dX12_init_29 : decode cX12_init 29 = .ok (.iconst 0, 1) := by decide +kernel
theorem dX12_init_30 : decode cX12_init 30 = .ok (.putfield 23, 3) := by decide +kernel
theorem dX12_init_33 : decode cX12_init 33 = .ok (.aload_n 0, 1) := by decide +kernel
theorem dX12_init_34 : decode cX12_init 34 = .ok (.iconst 0, 1) := by decide +kernel
theorem dX12_init_35 : decode cX12_init 35 = .ok (.putfield 26, 3) := by decide +kernel
theorem dX12_init_38 : decode cX12_init 38 = .ok (.aload_n 0, 1) := by decide +kernel
theorem dX12_init_39 : decode cX12_init 39 = .ok (.iconst 0, 1) := by decide +kernel
theorem dX12_init_40 : decode cX12_init 40 = .ok (.putfield 29, 3) := by decide +kernel
theorem dX12_init_43 : decode cX12_init 43 = .ok (.aload_n 0, 1) := by decide +kernel
theorem dX12_init_44 : decode cX12_init 44 = .ok (.lconst 0, 1) := by decide +kernel
theorem dX12_init_45 : decode cX12_init 45 = .ok (.putfield 32, 3) := by decide +kernel
theorem dX12_init_48 : decode cX12_init 48 = .ok (.aload_n 0, 1) := by decide +kernel
theorem dX12_init_49 : decode cX12_init 49 = .ok (.iconst 0, 1) := by decide +kernel
theorem dX12_init_50 : decode cX12_init 50 = .ok (.putfield 36, 3) := by decide +kernel
theorem dX12_init_53 : decode cX12_init 53 = .ok (.aload_n 0, 1) := by decide +kernel
theorem dX12_init_54 : decode cX12_init 54 = .ok (.iconst (-1), 1) := by decide +kernel
theorem dX12_init_55 : decode cX12_init 55 = .ok (.putfield 39, 3) := by decide +kernel
theorem dX12_init_58 : decode cX12_init 58 = .ok (.aload_n 0, 1) := by decide +kernel
theorem dX12_init_59 : decode cX12_init 59 = .ok (.iconst 0, 1) := by decide +kernel
theorem dX12_init_60 : decode cX12_init 60 = .ok (.putfield 42, 3) := by decide +kernel
theorem dX12_init_63 : decode cX12_init 63 = .ok (.aload_n 0, 1) := by decide +kernel
theorem dX12_init_64 : decode cX12_init 64 = .ok (.iconst (-1), 1) := by decide +kernel
theorem dX12_init_65 : decode cX12_init 65 = .ok (.putfield 45, 3) := by decide +kernel
theorem dX12_init_68 : decode cX12_init 68 = .ok (.aload_n 0, 1) := by decide +kernel
theorem dX12_init_69 : decode cX12_init 69 = .ok (.iconst (-1), 1) := by decide +kernel
theorem dX12_init_70 : decode cX12_init 70 = .ok (.putfield 48, 3) := by decide +kernel
theorem dX12_init_73 : decode cX12_init 73 = .ok (.aload_n 0, 1) := by decide +kernel
theorem dX12_init_74 : decode cX12_init 74 = .ok (.iconst 0, 1) := by decide +kernel
theorem dX12_init_75 : decode cX12_init 75 = .ok (.putfield 51, 3) := by decide +kernel
theorem dX12_init_78 : decode cX12_init 78 = .ok (.aload_n 0, 1) := by decide +kernel
theorem dX12_init_79 : decode cX12_init 79 = .ok (.iconst 2, 1) := by decide +kernel
theorem dX12_init_80 : decode cX12_init 80 = .ok (.newarray .int, 2) := by decide +kernel
theorem dX12_init_82 : decode cX12_init 82 = .ok (.putfield 54, 3) := by decide +kernel
theorem dX12_init_85 : decode cX12_init 85 = .ok (.aload_n 0, 1) := by decide +kernel
theorem dX12_init_86 : decode cX12_init 86 = .ok (.bipush 14, 2) := by decide +kernel
theorem dX12_init_88 : decode cX12_init 88 = .ok (.newarray .int, 2) := by decide +kernel
theorem dX12_init_90 : decode cX12_init 90 = .ok (.putfield 57, 3) := by decide +kernel
theorem dX12_init_93 : decode cX12_init 93 = .ok (.aload_n 0, 1) := by decide +kernel
theorem dX12_init_94 : decode cX12_init 94 = .ok (.iconst 2, 1) := by decide +kernel
theorem dX12_init_95 : decode cX12_init 95 = .ok (.newarray .int, 2) := by decide +kernel
theorem dX12_init_97 : decode cX12_init 97 = .ok (.putfield 60, 3) := by decide +kernel
theorem dX12_init_100 : decode cX12_init 100 = .ok (.aload_n 0, 1) := by decide +kernel
theorem dX12_init_101 : decode cX12_init 101 = .ok (.bipush 16, 2) := by decide +kernel
theorem dX12_init_103 : decode cX12_init 103 = .ok (.newarray .int, 2) := by decide +kernel
theorem dX12_init_105 : decode cX12_init 105 = .ok (.putfield 63, 3) := by decide +kernel
theorem dX12_init_108 : decode cX12_init 108 = .ok (.aload_n 0, 1) := by decide +kernel
theorem dX12_init_109 : decode cX12_init 109 = .ok (.bipush 16, 2) := by decide +kernel
theorem dX12_init_111 : decode cX12_init 111 = .ok (.newarray .int, 2) := by decide +kernel
theorem dX12_init_113 : decode cX12_init 113 = .ok (.putfield 66, 3) := by decide +kernel
theorem dX12_init_116 : decode cX12_init 116 = .ok (.aload_n 0, 1) := by decide +kernel
theorem dX12_init_117 : decode cX12_init 117 = .ok (.iconst 2, 1) := by decide +kernel
theorem dX12_init_118 : decode cX12_init 118 = .ok (.newarray .int, 2) := by decide +kernel
theorem dX12_init_120 : decode cX12_init 120 = .ok (.putfield 69, 3) := by decide +kernel
theorem dX12_init_123 : decode cX12_init 123 = .ok (.aload_n 0, 1) := by decide +kernel
theorem dX12_init_124 : decode cX12_init 124 = .ok (.bipush 24, 2) := by decide +kernel
theorem dX12_init_126 : decode cX12_init 126 = .ok (.newarray .int, 2) := by decide +kernel
theorem dX12_init_128 : decode cX12_init 128 = .ok (.putfield 72, 3) := by decide +kernel
theorem dX12_init_131 : decode cX12_init 131 = .ok (.aload_n 0, 1) := by decide +kernel
theorem dX12_init_132 : decode cX12_init 132 = .ok (.bipush 24, 2) := by decide +kernel
theorem dX12_init_134 : decode cX12_init 134 = .ok (.newarray .int, 2) := by decide +kernel
theorem dX12_init_136 : decode cX12_init 136 = .ok (.putfield 75, 3) := by decide +kernel
theorem dX12_init_139 : decode cX12_init 139 = .ok (.aload_n 0, 1) := by decide +kernel
theorem dX12_init_140 : decode cX12_init 140 = .ok (.bipush 24, 2) := by decide +kernel
theorem dX12_init_142 : decode cX12_init 142 = .ok (.newarray .int, 2) := by decide +kernel
theorem dX12_init_144 : decode cX12_init 144 = .ok (.putfield 78, 3) := by decide +kernel
theorem dX12_init_147 : decode cX12_init 147 = .ok (.aload_n 0, 1) := by decide +kernel
theorem dX12_init_148 : decode cX12_init 148 = .ok (.iconst 2, 1) := by decide +kernel
theorem dX12_init_149 : decode cX12_init 149 = .ok (.newarray .int, 2) := by decide +kernel
theorem dX12_init_151 : decode cX12_init 151 = .ok (.putfield 81, 3) := by decide +kernel
theorem dX12_init_154 : decode cX12_init 154 = .ok (.aload_n 0, 1) := by decide +kernel
theorem dX12_init_155 : decode cX12_init 155 = .ok (.bipush 6, 2) := by decide +kernel
theorem dX12_init_157 : decode cX12_init 157 = .ok (.newarray .int, 2) := by decide +kernel
theorem dX12_init_159 : decode cX12_init 159 = .ok (.putfield 84, 3) := by decide +kernel
theorem dX12_init_162 : decode cX12_init 162 = .ok (.aload_n 0, 1) := by decide +kernel
theorem dX12_init_163 : decode cX12_init 163 = .ok (.bipush 6, 2) := by decide +kernel
theorem dX12_init_165 : decode cX12_init 165 = .ok (.newarray .int, 2) := by decide +kernel
theorem dX12_init_167 : decode cX12_init 167 = .ok (.putfield 87, 3) := by decide +kernel
theorem dX12_init_170 : decode cX12_init 170 = .ok (.aload_n 0, 1) := by decide +kernel
theorem dX12_init_171 : decode cX12_init 171 = .ok (.sipush 3200, 3) := by decide +kernel
theorem dX12_init_174 : decode cX12_init 174 = .ok (.newarray .int, 2) := by decide +kernel
theorem dX12_init_176 : decode cX12_init 176 = .ok (.putfield 90, 3) := by decide +kernel
theorem dX12_init_179 : decode cX12_init 179 = .ok (.aload_n 0, 1) := by decide +kernel
theorem dX12_init_180 : decode cX12_init 180 = .ok (.sipush 3200, 3) := by decide +kernel
theorem dX12_init_183 : decode cX12_init 183 = .ok (.newarray .int, 2) := by decide +kernel
theorem dX12_init_185 : decode cX12_init 185 = .ok (.putfield 93, 3) := by decide +kernel
theorem dX12_init_188 : decode cX12_init 188 = .ok (.aload_n 0, 1) := by decide +kernel
theorem dX12_init_189 : decode cX12_init 189 = .ok (.bipush 14, 2) := by decide +kernel
theorem dX12_init_191 : decode cX12_init 191 = .ok (.newarray .long, 2) := by decide +kernel
theorem dX12_init_193 : decode cX12_init 193 = .ok (.putfield 96, 3) := by decide +kernel
theorem dX12_init_196 : decode cX12_init 196 = .ok (.aload_n 0, 1) := by decide +kernel
theorem dX12_init_197 : decode cX12_init 197 = .ok (.bipush 16, 2) := by decide +kernel
theorem dX12_init_199 : decode cX12_init 199 = .ok (.newarray .long, 2) := by decide +kernel
theorem dX12_init_201 : decode cX12_init 201 = .ok (.putfield 100, 3) := by decide +kernel
theorem dX12_init_204 : decode cX12_init 204 = .ok (.aload_n 0, 1) := by decide +kernel
theorem dX12_init_205 : decode cX12_init 205 = .ok (.iconst 0, 1) := by decide +kernel
theorem dX12_init_206 : decode cX12_init 206 = .ok (.putfield 103, 3) := by decide +kernel
theorem dX12_init_209 : decode cX12_init 209 = .ok (.aload_n 0, 1) := by decide +kernel
theorem dX12_init_210 : decode cX12_init 210 = .ok (.iconst 1, 1) := by decide +kernel
theorem dX12_init_211 : decode cX12_init 211 = .ok (.putfield 106, 3) := by decide +kernel
theorem dX12_init_214 : decode cX12_init 214 = .ok (.aload_n 0, 1) := by decide +kernel
theorem dX12_init_215 : decode cX12_init 215 = .ok (.iconst 0, 1) := by decide +kernel
theorem dX12_init_216 : decode cX12_init 216 = .ok (.putfield 109, 3) := by decide +kernel
theorem dX12_init_219 : decode cX12_init 219 = .ok (.aload_n 0, 1) := by decide +kernel
theorem dX12_init_220 : decode cX12_init 220 = .ok (.bipush 20, 2) := by decide +kernel
theorem dX12_init_222 : decode cX12_init 222 = .ok (.newarray .int, 2) := by decide +kernel
theorem dX12_init_224 : decode cX12_init 224 = .ok (.putfield 112, 3) := by decide +kernel
theorem dX12_init_227 : decode cX12_init 227 = .ok (.aload_n 0, 1) := by decide +kernel
theorem dX12_init_228 : decode cX12_init 228 = .ok (.bipush 20, 2) := by decide +kernel
theorem dX12_init_230 : decode cX12_init 230 = .ok (.newarray .int, 2) := by decide +kernel
theorem dX12_init_232 : decode cX12_init 232 = .ok (.putfield 115, 3) := by decide +kernel
theorem dX12_init_235 : decode cX12_init 235 = .ok (.aload_n 0, 1) := by decide +kernel
theorem dX12_init_236 : decode cX12_init 236 = .ok (.bipush 20, 2) := by decide +kernel
theorem dX12_init_238 : decode cX12_init 238 = .ok (.newarray .boolean, 2) := by decide +kernel
theorem dX12_init_240 : decode cX12_init 240 = .ok (.putfield 118, 3) := by decide +kernel
theorem dX12_init_243 : decode cX12_init 243 = .ok (.aload_n 0, 1) := by decide +kernel
theorem dX12_init_244 : decode cX12_init 244 = .ok (.bipush 20, 2) := by decide +kernel
theorem dX12_init_246 : decode cX12_init 246 = .ok (.newarray .int, 2) := by decide +kernel
theorem dX12_init_248 : decode cX12_init 248 = .ok (.putfield 122, 3) := by decide +kernel
theorem dX12_init_251 : decode cX12_init 251 = .ok (.aload_n 0, 1) := by decide +kernel
theorem dX12_init_252 : decode cX12_init 252 = .ok (.bipush 20, 2) := by decide +kernel
theorem dX12_init_254 : decode cX12_init 254 = .ok (.newarray .int, 2) := by decide +kernel
theorem dX12_init_256 : decode cX12_init 256 = .ok (.putfield 125, 3) := by decide +kernel
theorem dX12_init_259 : decode cX12_init 259 = .ok (.aload_n 0, 1) := by decide +kernel
theorem dX12_init_260 : decode cX12_init 260 = .ok (.iconst 0, 1) := by decide +kernel
theorem dX12_init_261 : decode cX12_init 261 = .ok (.putfield 128, 3) := by decide +kernel
theorem dX12_init_264 : decode cX12_init 264 = .ok (.aload_n 0, 1) := by decide +kernel
theorem dX12_init_265 : decode cX12_init 265 = .ok (.iconst 0, 1) := by decide +kernel
theorem dX12_init_266 : decode cX12_init 266 = .ok (.putfield 131, 3) := by decide +kernel
theorem dX12_init_269 : decode cX12_init 269 = .ok (.aload_n 0, 1) := by decide +kernel
theorem dX12_init_270 : decode cX12_init 270 = .ok (.sipush 500, 3) := by decide +kernel
theorem dX12_init_273 : decode cX12_init 273 = .ok (.newarray .int, 2) := by decide +kernel
theorem dX12_init_275 : decode cX12_init 275 = .ok (.putfield 134, 3) := by decide +kernel
theorem dX12_init_278 : decode cX12_init 278 = .ok (.aload_n 0, 1) := by decide +kernel
theorem dX12_init_279 : decode cX12_init 279 = .ok (.iconst 0, 1) := by decide +kernel
theorem dX12_init_280 : decode cX12_init 280 = .ok (.putfield 137, 3) := by decide +kernel
theorem dX12_init_283 : decode cX12_init 283 = .ok (.aload_n 0, 1) := by decide +kernel
theorem dX12_init_284 : decode cX12_init 284 = .ok (.iconst 0, 1) := by decide +kernel
theorem dX12_init_285 : decode cX12_init 285 = .ok (.putfield 140, 3) := by decide +kernel
theorem dX12_init_288 : decode cX12_init 288 = .ok (.aload_n 0, 1) := by decide +kernel
theorem dX12_init_289 : decode cX12_init 289 = .ok (.bipush 6, 2) := by decide +kernel
theorem dX12_init_291 : decode cX12_init 291 = .ok (.newarray .int, 2) := by decide +kernel
theorem dX12_init_293 : decode cX12_init 293 = .ok (.putfield 144, 3) := by decide +kernel
theorem dX12_init_296 : decode cX12_init 296 = .ok (.aload_n 0, 1) := by decide +kernel
theorem dX12_init_297 : decode cX12_init 297 = .ok (.bipush 22, 2) := by decide +kernel
theorem dX12_init_299 : decode cX12_init 299 = .ok (.newarray .int, 2) := by decide +kernel
theorem dX12_init_301 : decode cX12_init 301 = .ok (.putfield 147, 3) := by decide +kernel
theorem dX12_init_304 : decode cX12_init 304 = .ok (.aload_n 0, 1) := by decide +kernel
theorem dX12_init_305 : decode cX12_init 305 = .ok (.sipush 154, 3) := by decide +kernel
theorem dX12_init_308 : decode cX12_init 308 = .ok (.newarray .int, 2) := by decide +kernel
theorem dX12_init_310 : decode cX12_init 310 = .ok (.putfield 150, 3) := by decide +kernel
theorem dX12_init_313 : decode cX12_init 313 = .ok (.aload_n 0, 1) := by decide +kernel
theorem dX12_init_314 : decode cX12_init 314 = .ok (.sipush 154, 3) := by decide +kernel
theorem dX12_init_317 : decode cX12_init 317 = .ok (.newarray .int, 2) := by decide +kernel
theorem dX12_init_319 : decode cX12_init 319 = .ok (.putfield 153, 3) := by decide +kernel
theorem dX12_init_322 : decode cX12_init 322 = .ok (.aload_n 0, 1) := by decide +kernel
theorem dX12_init_323 : decode cX12_init 323 = .ok (.bipush 22, 2) := by decide +kernel
theorem dX12_init_325 : decode cX12_init 325 = .ok (.newarray .int, 2) := by decide +kernel
theorem dX12_init_327 : decode cX12_init 327 = .ok (.putfield 156, 3) := by decide +kernel
theorem dX12_init_330 : decode cX12_init 330 = .ok (.aload_n 0, 1) := by decide +kernel
theorem dX12_init_331 : decode cX12_init 331 = .ok (.sipush 264, 3) := by decide +kernel
theorem dX12_init_334 : decode cX12_init 334 = .ok (.newarray .int, 2) := by decide +kernel
theorem dX12_init_336 : decode cX12_init 336 = .ok (.putfield 159, 3) := by decide +kernel
theorem dX12_init_339 : decode cX12_init 339 = .ok (.aload_n 0, 1) := by decide +kernel
theorem dX12_init_340 : decode cX12_init 340 = .ok (.sipush 264, 3) := by decide +kernel
theorem dX12_init_343 : decode cX12_init 343 = .ok (.newarray .int, 2) := by decide +kernel
theorem dX12_init_345 : decode cX12_init 345 = .ok (.putfield 162, 3) := by decide +kernel
theorem dX12_init_348 : decode cX12_init 348 = .ok (.aload_n 0, 1) := by decide +kernel
theorem dX12_init_349 : decode cX12_init 349 = .ok (.sipush 264, 3) := by decide +kernel
theorem dX12_init_352 : decode cX12_init 352 = .ok (.newarray .int, 2) := by decide +kernel
theorem dX12_init_354 : decode cX12_init 354 = .ok (.putfield 165, 3) := by decide +kernel
theorem dX12_init_357 : decode cX12_init 357 = .ok (.aload_n 0, 1) := by decide +kernel
theorem dX12_init_358 : decode cX12_init 358 = .ok (.sipush 264, 3) := by decide +kernel
theorem dX12_init_361 : decode cX12_init 361 = .ok (.newarray .int, 2) := by decide +kernel
theorem dX12_init_363 : decode cX12_init 363 = .ok (.putfield 168, 3) := by decide +kernel
theorem dX12_init_366 : decode cX12_init 366 = .ok (.aload_n 0, 1) := by decide +kernel
theorem dX12_init_367 : decode cX12_init 367 = .ok (.sipush 264, 3) := by decide +kernel
theorem dX12_init_370 : decode cX12_init 370 = .ok (.newarray .int, 2) := by decide +kernel
theorem dX12_init_372 : decode cX12_init 372 = .ok (.putfield 171, 3) := by decide +kernel
theorem dX12_init_375 : decode cX12_init 375 = .ok (.aload_n 0, 1) := by decide +kernel
theorem dX12_init_376 : decode cX12_init 376 = .ok (.bipush 22, 2) := by decide +kernel
theorem dX12_init_378 : decode cX12_init 378 = .ok (.newarray .int, 2) := by decide +kernel
theorem dX12_init_380 : decode cX12_init 380 = .ok (.putfield 174, 3) := by decide +kernel
theorem dX12_init_383 : decode cX12_init 383 = .ok (.aload_n 0, 1) := by decide +kernel
theorem dX12_init_384 : decode cX12_init 384 = .ok (.bipush 22, 2) := by decide +kernel
theorem dX12_init_386 : decode cX12_init 386 = .ok (.newarray .int, 2) := by decide +kernel
theorem dX12_init_388 : decode cX12_init 388 = .ok (.putfield 177, 3) := by decide +kernel
theorem dX12_init_391 : decode cX12_init 391 = .ok (.aload_n 0, 1) := by decide +kernel
theorem dX12_init_392 : decode cX12_init 392 = .ok (.sipush 2640, 3) := by decide +kernel
theorem dX12_init_395 : decode cX12_init 395 = .ok (.newarray .int, 2) := by decide +kernel
theorem dX12_init_397 : decode cX12_init 397 = .ok (.putfield 180, 3) := by decide +kernel
theorem dX12_init_400 : decode cX12_init 400 = .ok (.aload_n 0, 1) := by decide +kernel
theorem dX12_init_401 : decode cX12_init 401 = .ok (.iconst 0, 1) := by decide +kernel
theorem dX12_init_402 : decode cX12_init 402 = .ok (.putfield 183, 3) := by decide +kernel
theorem dX12_init_405 : decode cX12_init 405 = .ok (.aload_n 0, 1) := by decide +kernel
theorem dX12_init_406 : decode cX12_init 406 = .ok (.iconst 0, 1) := by decide +kernel
theorem dX12_init_407 : decode cX12_init 407 = .ok (.putfield 186, 3) := by decide +kernel
theorem dX12_init_410 : decode cX12_init 410 = .ok (.aload_n 0, 1) := by decide +kernel
theorem dX12_init_411 : decode cX12_init 411 = .ok (.lconst 1, 1) := by decide +kernel
theorem dX12_init_412 : decode cX12_init 412 = .ok (.putfield 189, 3) := by decide +kernel
theorem dX12_init_415 : decode cX12_init 415 = .ok (.aload_n 0, 1) := by decide +kernel
theorem dX12_init_416 : decode cX12_init 416 = .ok (.sipush 500, 3) := by decide +kernel
theorem dX12_init_419 : decode cX12_init 419 = .ok (.newarray .long, 2) := by decide +kernel
theorem dX12_init_421 : decode cX12_init 421 = .ok (.putfield 192, 3) := by decide +kernel
theorem dX12_init_424 : decode cX12_init 424 = .ok (.aload_n 0, 1) := by decide +kernel
theorem dX12_init_425 : decode cX12_init 425 = .ok (.bipush 12, 2) := by decide +kernel
theorem dX12_init_427 : decode cX12_init 427 = .ok (.newarray .int, 2) := by decide +kernel
theorem dX12_init_429 : decode cX12_init 429 = .ok (.putfield 195, 3) := by decide +kernel
theorem dX12_init_432 : decode cX12_init 432 = .ok (.aload_n 0, 1) := by decide +kernel
theorem dX12_init_433 : decode cX12_init 433 = .ok (.bipush 12, 2) := by decide +kernel
theorem dX12_init_435 : decode cX12_init 435 = .ok (.newarray .int, 2) := by decide +kernel
theorem dX12_init_437 : decode cX12_init 437 = .ok (.putfield 198, 3) := by decide +kernel
theorem dX12_init_440 : decode cX12_init 440 = .ok (.aload_n 0, 1) := by decide +kernel
theorem dX12_init_441 : decode cX12_init 441 = .ok (.sipush 1664, 3) := by decide +kernel
theorem dX12_init_444 : decode cX12_init 444 = .ok (.newarray .int, 2) := by decide +kernel
theorem dX12_init_446 : decode cX12_init 446 = .ok (.putfield 201, 3) := by decide +kernel
theorem dX12_init_449 : decode cX12_init 449 = .ok (.aload_n 0, 1) := by decide +kernel
theorem dX12_init_450 : decode cX12_init 450 = .ok (.iconst 0, 1) := by decide +kernel
theorem dX12_init_451 : decode cX12_init 451 = .ok (.putfield 204, 3) := by decide +kernel
theorem dX12_init_454 : decode cX12_init 454 = .ok (.aload_n 0, 1) := by decide +kernel
theorem dX12_init_455 : decode cX12_init 455 = .ok (.bipush 16, 2) := by decide +kernel
theorem dX12_init_457 : decode cX12_init 457 = .ok (.newarray .int, 2) := by decide +kernel
theorem dX12_init_459 : decode cX12_init 459 = .ok (.putfield 207, 3) := by decide +kernel
theorem dX12_init_462 : decode cX12_init 462 = .ok (.aload_n 0, 1) := by decide +kernel
theorem dX12_init_463 : decode cX12_init 463 = .ok (.bipush 16, 2) := by decide +kernel
theorem dX12_init_465 : decode cX12_init 465 = .ok (.newarray .int, 2) := by decide +kernel
theorem dX12_init_467 : decode cX12_init 467 = .ok (.putfield 210, 3) := by decide +kernel
theorem dX12_init_470 : decode cX12_init 470 = .ok (.aload_n 0, 1) := by decide +kernel
theorem dX12_init_471 : decode cX12_init 471 = .ok (.bipush 16, 2) := by decide +kernel
theorem dX12_init_473 : decode cX12_init 473 = .ok (.newarray .int, 2) := by decide +kernel
theorem dX12_init_475 : decode cX12_init 475 = .ok (.putfield 213, 3) := by decide +kernel
theorem dX12_init_478 : decode cX12_init 478 = .ok (.aload_n 0, 1) := by decide +kernel
theorem dX12_init_479 : decode cX12_init 479 = .ok (.sipush 3720, 3) := by decide +kernel
theorem dX12_init_482 : decode cX12_init 482 = .ok (.newarray .int, 2) := by decide +kernel
theorem dX12_init_484 : decode cX12_init 484 = .ok (.putfield 216, 3) := by decide +kernel
theorem dX12_init_487 : decode cX12_init 487 = .ok (.aload_n 0, 1) := by decide +kernel
theorem dX12_init_488 : decode cX12_init 488 = .ok (.bipush 120, 2) := by decide +kernel
theorem dX12_init_490 : decode cX12_init 490 = .ok (.newarray .int, 2) := by decide +kernel
theorem dX12_init_492 : decode cX12_init 492 = .ok (.putfield 219, 3) := by decide +kernel
theorem dX12_init_495 : decode cX12_init 495 = .ok (.aload_n 0, 1) := by decide +kernel
theorem dX12_init_496 : decode cX12_init 496 = .ok (.iconst 0, 1) := by decide +kernel
theorem dX12_init_497 : decode cX12_init 497 = .ok (.putfield 222, 3) := by decide +kernel
theorem dX12_init_500 : decode cX12_init 500 = .ok (.iconst 0, 1) := by decide +kernel
theorem dX12_init_501 : decode cX12_init 501 = .ok (.istore_n 1, 1) := by decide +kernel
theorem dX12_init_502 : decode cX12_init 502 = .ok (.iload_n 1, 1) := by decide +kernel
theorem dX12_init_503 : decode cX12_init 503 = .ok (.bipush 6, 2) := by decide +kernel
theorem dX12_init_505 : decode cX12_init 505 = .ok (.if_icmp .ge 16, 3) := by decide +kernel
theorem dX12_init_508 : decode cX12_init 508 = .ok (.aload_n 0, 1) := by decide +kernel
theorem dX12_init_509 : decode cX12_init 509 = .ok (.getfield 84, 3) := by decide +kernel
theorem dX12_init_512 : decode cX12_init 512 = .ok (.iload_n 1, 1) := by decide +kernel
theorem dX12_init_513 : decode cX12_init 513 = .ok (.iconst (-1), 1) := by decide +kernel
theorem dX12_init_514 : decode cX12_init 514 = .ok (.iastore, 1) := by decide +kernel
theorem dX12_init_515 : decode cX12_init 515 = .ok (.iinc 1 1, 3) := by decide +kernel
theorem dX12_init_518 : decode cX12_init 518 = .ok (.goto (-16), 3) := by decide +kernel
theorem dX12_init_521 : decode cX12_init 521 = .ok (.return_, 1) := by decide +kernel
set_option maxHeartbeats 8000000 in
set_option maxRecDepth 40000 in
theorem k_mModel (l : Launch) : CtN l yX12_init cX12_init 2 1 12 vwCl mSh (NExt xNest) (fun b => [vR b 0]) 1 46 (Rfh mRf (HO 0 [0, 14, 15, 16, 17, 18, 19, 20, 21, 22, 23, 24, 25, 26, 27, 28, 29, 33, 34, 35, 36, 37, 40, 43, 44, 45, 46, 47, 48, 49, 50, 51, 52, 53, 54, 55, 59, 60, 61, 62, 64, 65, 66, 67, 68] [])) (Rfh mRf []) (fun _ _ => 0) (upM (upM (upM (upM (upM (upM (upM (upM (upM (upM (upM (upM (upM (upM (upM (upM (upM (upM (upM (upM (upM (upM (upM (upM (upM (upM (upM (upM (upM (upM (upM (fun _ _ => 0) 0 1 0) 0 2 0) 0 3 0) 0 4 0) 0 5 0) 0 6 0) 0 7 0) 0 8 0) 0 9 (-1)) 0 10 0) 0 11 (-1)) 0 12 (-1)) 0 13 0) 0 30 0) 0 31 1) 0 32 0) 0 38 0) 0 39 0) 0 41 0) 0 42 0) 0 56 0) 0 57 0) 0 58 1) 0 63 0) 0 69 0) 12 0 (-1)) 12 1 (-1)) 12 2 (-1)) 12 3 (-1)) 12 4 (-1)) 12 5 (-1)) 45 19406 := by
  have hM : ∀ k, 1 ≤ k → ∀ j, (fun _ _ => 0 : Mem) k j = 0 := fun _ _ _ => rfl
  refine CtN_of (fun A => NExt_ok xNest A) (by decide) rfl (fun b => Nat.le_of_ble_eq_true rfl) ?_
  intro p e s m args below meth c D E b C hr hin hz0
  refine (show WN p l e (mkN 1 45 19406 12) s m args below meth c 2 D E vwCl mSh b (MQ below (QN D vwCl E mSh b 46 (Rfh mRf []) (upM (upM (upM (upM (upM (upM (upM (upM (upM (upM (upM (upM (upM (upM (upM (upM (upM (upM (upM (upM (upM (upM (upM (upM (upM (upM (upM (upM (upM (upM (upM (fun _ _ => 0) 0 1 0) 0 2 0) 0 3 0) 0 4 0) 0 5 0) 0 6 0) 0 7 0) 0 8 0) 0 9 (-1)) 0 10 0) 0 11 (-1)) 0 12 (-1)) 0 13 0) 0 30 0) 0 31 1) 0 32 0) 0 38 0) 0 39 0) 0 41 0) 0 42 0) 0 56 0) 0 57 0) 0 58 1) 0 63 0) 0 69 0) 12 0 (-1)) 12 1 (-1)) 12 2 (-1)) 12 3 (-1)) 12 4 (-1)) 12 5 (-1))) args s 45 19406 (fun q => b ≤ q)) 1 (Rfh mRf (HO 0 [0, 14, 15, 16, 17, 18, 19, 20, 21, 22, 23, 24, 25, 26, 27, 28, 29, 33, 34, 35, 36, 37, 40, 43, 44, 45, 46, 47, 48, 49, 50, 51, 52, 53, 54, 55, 59, 60, 61, 62, 64, 65, 66, 67, 68] [])) (fun _ _ => 0) 0 0 0 [(0, vR b 0)] [] from ?_)
  refine n_aload_n (pc := 0) C 0 rfl rfl dX12_init_0 ?_
  refine n_objInit (pc := 1) C ko_RX12_1 mo_i mo_c (Nat.le_of_ble_eq_true rfl) (Nat.le_of_ble_eq_true rfl) dX12_init_1 ?_
  refine n_aload_n (pc := 4) C 0 rfl rfl dX12_init_4 ?_
  refine n_sipush (pc := 5) (j := 1800) C (by decide +kernel) dX12_init_5 ?_
  refine n_newa (pc := 8) (n := 1) (t := 0) (L := 1800) (atype := .int) C rfl (Or.inl ⟨rfl, rfl⟩) mA_int m_s1 (fun j => hM 1 (by omega) j) (by decide) rfl ⟨by omega, by omega⟩ (Nat.le_of_ble_eq_true rfl) (Nat.le_of_ble_eq_true rfl) dX12_init_8 ?_
  refine n_putR (pc := 10) (hol := HO 0 [14, 15, 16, 17, 18, 19, 20, 21, 22, 23, 24, 25, 26, 27, 28, 29, 33, 34, 35, 36, 37, 40, 43, 44, 45, 46, 47, 48, 49, 50, 51, 52, 53, 54, 55, 59, 60, 61, 62, 64, 65, 66, 67, 68] []) C hin fk_RX12_7 mw_ft kf_RX12_0 m_s0 (by omega) m_k0 (fun _ => rfl) (fun _ => rfl) (ho_nin (by decide) (fun _ h => absurd h List.not_mem_nil)) m_r0 dX12_init_10 ?_
  refine n_aload_n (pc := 13) C 0 rfl rfl dX12_init_13 ?_
  refine n_iconst (pc := 14) C dX12_init_14 ?_
  refine n_putI (pc := 15) C fk_RX12_13 mw_ft m_w1 m_s0 (by omega) m_k1 dX12_init_15 ?_
  refine n_aload_n (pc := 18) C 0 rfl rfl dX12_init_18 ?_
  refine n_iconst (pc := 19) C dX12_init_19 ?_
  refine n_putI (pc := 20) C fk_RX12_17 mw_ft m_w2 m_s0 (by omega) m_k2 dX12_init_20 ?_
  refine n_aload_n (pc := 23) C 0 rfl rfl dX12_init_23 ?_
  refine n_iconst (pc := 24) C dX12_init_24 ?_
  refine n_putI (pc := 25) C fk_RX12_20 mw_ft m_w3 m_s0 (by omega) m_k3 dX12_init_25 ?_
  refine n_aload_n (pc := 28) C 0 rfl rfl dX12_init_28 ?_
  refine n_iconst (pc := 29) C dX12_init_29 ?_
  refine n_putI (pc := 30) C fk_RX12_23 mw_ft m_w4 m_s0 (by omega) m_k4 dX12_init_30 ?_
  refine n_aload_n (pc := 33) C 0 rfl rfl dX12_init_33 ?_
  refine n_iconst (pc := 34) C dX12_init_34 ?_
  refine n_putI (pc := 35) C fk_RX12_26 mw_ft m_w5 m_s0 (by omega) m_k5 dX12_init_35 ?_
  refine n_aload_n (pc := 38) C 0 rfl rfl dX12_init_38 ?_
  refine n_iconst (pc := 39) C dX12_init_39 ?_
  refine n_putI (pc := 40) C fk_RX12_29 mw_ft m_w6 m_s0 (by omega) m_k6 dX12_init_40 ?_
  refine n_aload_n (pc := 43) C 0 rfl rfl dX12_init_43 ?_
  refine n_lconst (pc := 44) (j := 0) C rfl dX12_init_44 ?_
  refine n_putL (pc := 45) C fk_RX12_32 mw_ft m_w7 m_s0 (by omega) m_k7 dX12_init_45 ?_
  refine n_aload_n (pc := 48) C 0 rfl rfl dX12_init_48 ?_
  refine n_iconst (pc := 49) C dX12_init_49 ?_
  refine n_putI (pc := 50) C fk_RX12_36 mw_ft m_w8 m_s0 (by omega) m_k8 dX12_init_50 ?_
  refine n_aload_n (pc := 53) C 0 rfl rfl dX12_init_53 ?_
  refine n_iconst (pc := 54) C dX12_init_54 ?_
  refine n_putI (pc := 55) C fk_RX12_39 mw_ft m_w9 m_s0 (by omega) m_k9 dX12_init_55 ?_
  refine n_aload_n (pc := 58) C 0 rfl rfl dX12_init_58 ?_
  refine n_iconst (pc := 59) C dX12_init_59 ?_
  refine n_putI (pc := 60) C fk_RX12_42 mw_ft m_w10 m_s0 (by omega) m_k10 dX12_init_60 ?_
  refine n_aload_n (pc := 63) C 0 rfl rfl dX12_init_63 ?_
  refine n_iconst (pc := 64) C dX12_init_64 ?_
  refine n_putI (pc := 65) C fk_RX12_45 mw_ft m_w11 m_s0 (by omega) m_k11 dX12_init_65 ?_
  refine n_aload_n (pc := 68) C 0 rfl rfl dX12_init_68 ?_
  refine n_iconst (pc := 69) C dX12_init_69 ?_
  refine n_putI (pc := 70) C fk_RX12_48 mw_ft m_w12 m_s0 (by omega) m_k12 dX12_init_70 ?_
  refine n_aload_n (pc := 73) C 0 rfl rfl dX12_init_73 ?_
  refine n_iconst (pc := 74) C dX12_init_74 ?_
  refine n_putI (pc := 75) C fk_RX12_51 mw_ft m_w13 m_s0 (by omega) m_k13 dX12_init_75 ?_
  refine n_aload_n (pc := 78) C 0 rfl rfl dX12_init_78 ?_
  refine n_iconst (pc := 79) C dX12_init_79 ?_
  refine n_newa (pc := 80) (n := 2) (t := 0) (L := 2) (atype := .int) C rfl (Or.inl ⟨rfl, rfl⟩) mA_int m_s2 (fun j => (up_z (N1 := 2) (up_z (N1 := 2) (up_z (N1 := 2) (up_z (N1 := 2) (up_z (N1 := 2) (up_z (N1 := 2) (up_z (N1 := 2) (up_z (N1 := 2) (up_z (N1 := 2) (up_z (N1 := 2) (up_z (N1 := 2) (up_z (N1 := 2) (up_z (N1 := 2) hM (by omega) (by omega)) (by omega) (by omega)) (by omega) (by omega)) (by omega) (by omega)) (by omega) (by omega)) (by omega) (by omega)) (by omega) (by omega)) (by omega) (by omega)) (by omega) (by omega)) (by omega) (by omega)) (by omega) (by omega)) (by omega) (by omega)) (by omega) (by omega)) 2 (by omega) j) (by decide) rfl ⟨by omega, by omega⟩ (Nat.le_of_ble_eq_true rfl) (Nat.le_of_ble_eq_true rfl) dX12_init_80 ?_
  refine n_putR (pc := 82) (hol := HO 0 [15, 16, 17, 18, 19, 20, 21, 22, 23, 24, 25, 26, 27, 28, 29, 33, 34, 35, 36, 37, 40, 43, 44, 45, 46, 47, 48, 49, 50, 51, 52, 53, 54, 55, 59, 60, 61, 62, 64, 65, 66, 67, 68] []) C hin fk_RX12_54 mw_ft kf_RX12_14 m_s0 (by omega) m_k14 (fun _ => rfl) (fun _ => rfl) (ho_nin (by decide) (fun _ h => absurd h List.not_mem_nil)) m_r14 dX12_init_82 ?_
  refine n_aload_n (pc := 85) C 0 rfl rfl dX12_init_85 ?_
  refine n_bipush (pc := 86) (j := 14) C (by decide +kernel) dX12_init_86 ?_
  refine n_newa (pc := 88) (n := 3) (t := 0) (L := 14) (atype := .int) C rfl (Or.inl ⟨rfl, rfl⟩) mA_int m_s3 (fun j => (up_z (N1 := 2) (up_z (N1 := 2) (up_z (N1 := 2) (up_z (N1 := 2) (up_z (N1 := 2) (up_z (N1 := 2) (up_z (N1 := 2) (up_z (N1 := 2) (up_z (N1 := 2) (up_z (N1 := 2) (up_z (N1 := 2) (up_z (N1 := 2) (up_z (N1 := 2) hM (by omega) (by omega)) (by omega) (by omega)) (by omega) (by omega)) (by omega) (by omega)) (by omega) (by omega)) (by omega) (by omega)) (by omega) (by omega)) (by omega) (by omega)) (by omega) (by omega)) (by omega) (by omega)) (by omega) (by omega)) (by omega) (by omega)) (by omega) (by omega)) 3 (by omega) j) (by decide) rfl ⟨by omega, by omega⟩ (Nat.le_of_ble_eq_true rfl) (Nat.le_of_ble_eq_true rfl) dX12_init_88 ?_
  refine n_putR (pc := 90) (hol := HO 0 [16, 17, 18, 19, 20, 21, 22, 23, 24, 25, 26, 27, 28, 29, 33, 34, 35, 36, 37, 40, 43, 44, 45, 46, 47, 48, 49, 50, 51, 52, 53, 54, 55, 59, 60, 61, 62, 64, 65, 66, 67, 68] []) C hin fk_RX12_57 mw_ft kf_RX12_15 m_s0 (by omega) m_k15 (fun _ => rfl) (fun _ => rfl) (ho_nin (by decide) (fun _ h => absurd h List.not_mem_nil)) m_r15 dX12_init_90 ?_
  refine n_aload_n (pc := 93) C 0 rfl rfl dX12_init_93 ?_
  refine n_iconst (pc := 94) C dX12_init_94 ?_
  refine n_newa (pc := 95) (n := 4) (t := 0) (L := 2) (atype := .int) C rfl (Or.inl ⟨rfl, rfl⟩) mA_int m_s4 (fun j => (up_z (N1 := 2) (up_z (N1 := 2) (up_z (N1 := 2) (up_z (N1 := 2) (up_z (N1 := 2) (up_z (N1 := 2) (up_z (N1 := 2) (up_z (N1 := 2) (up_z (N1 := 2) (up_z (N1 := 2) (up_z (N1 := 2) (up_z (N1 := 2) (up_z (N1 := 2) hM (by omega) (by omega)) (by omega) (by omega)) (by omega) (by omega)) (by omega) (by omega)) (by omega) (by omega)) (by omega) (by omega)) (by omega) (by omega)) (by omega) (by omega)) (by omega) (by omega)) (by omega) (by omega)) (by omega) (by omega)) (by omega) (by omega)) (by omega) (by omega)) 4 (by omega) j) (by decide) rfl ⟨by omega, by omega⟩ (Nat.le_of_ble_eq_true rfl) (Nat.le_of_ble_eq_true rfl) dX12_init_95 ?_
  refine n_putR (pc := 97) (hol := HO 0 [17, 18, 19, 20, 21, 22, 23, 24, 25, 26, 27, 28, 29, 33, 34, 35, 36, 37, 40, 43, 44, 45, 46, 47, 48, 49, 50, 51, 52, 53, 54, 55, 59, 60, 61, 62, 64, 65, 66, 67, 68] []) C hin fk_RX12_60 mw_ft kf_RX12_16 m_s0 (by omega) m_k16 (fun _ => rfl) (fun _ => rfl) (ho_nin (by decide) (fun _ h => absurd h List.not_mem_nil)) m_r16 dX12_init_97 ?_
  refine n_aload_n (pc := 100) C 0 rfl rfl dX12_init_100 ?_
  refine n_bipush (pc := 101) (j := 16) C (by decide +kernel) dX12_init_101 ?_
  refine n_newa (pc := 103) (n := 5) (t := 0) (L := 16) (atype := .int) C rfl (Or.inl ⟨rfl, rfl⟩) mA_int m_s5 (fun j => (up_z (N1 := 2) (up_z (N1 := 2) (up_z (N1 := 2) (up_z (N1 := 2) (up_z (N1 := 2) (up_z (N1 := 2) (up_z (N1 := 2) (up_z (N1 := 2) (up_z (N1 := 2) (up_z (N1 := 2) (up_z (N1 := 2) (up_z (N1 := 2) (up_z (N1 := 2) hM (by omega) (by omega)) (by omega) (by omega)) (by omega) (by omega)) (by omega) (by omega)) (by omega) (by omega)) (by omega) (by omega)) (by omega) (by omega)) (by omega) (by omega)) (by omega) (by omega)) (by omega) (by omega)) (by omega) (by omega)) (by omega) (by omega)) (by omega) (by omega)) 5 (by omega) j) (by decide) rfl ⟨by omega, by omega⟩ (Nat.le_of_ble_eq_true rfl) (Nat.le_of_ble_eq_true rfl) dX12_init_103 ?_
  refine n_putR (pc := 105) (hol := HO 0 [18, 19, 20, 21, 22, 23, 24, 25, 26, 27, 28, 29, 33, 34, 35, 36, 37, 40, 43, 44, 45, 46, 47, 48, 49, 50, 51, 52, 53, 54, 55, 59, 60, 61, 62, 64, 65, 66, 67, 68] []) C hin fk_RX12_63 mw_ft kf_RX12_17 m_s0 (by omega) m_k17 (fun _ => rfl) (fun _ => rfl) (ho_nin (by decide) (fun _ h => absurd h List.not_mem_nil)) m_r17 dX12_init_105 ?_
  refine n_aload_n (pc := 108) C 0 rfl rfl dX12_init_108 ?_
  refine n_bipush (pc := 109) (j := 16) C (by decide +kernel) dX12_init_109 ?_
  refine n_newa (pc := 111) (n := 6) (t := 0) (L := 16) (atype := .int) C rfl (Or.inl ⟨rfl, rfl⟩) mA_int m_s6 (fun j => (up_z (N1 := 2) (up_z (N1 := 2) (up_z (N1 := 2) (up_z (N1 := 2) (up_z (N1 := 2) (up_z (N1 := 2) (up_z (N1 := 2) (up_z (N1 := 2) (up_z (N1 := 2) (up_z (N1 := 2) (up_z (N1 := 2) (up_z (N1 := 2) (up_z (N1 := 2) hM (by omega) (by omega)) (by omega) (by omega)) (by omega) (by omega)) (by omega) (by omega)) (by omega) (by omega)) (by omega) (by omega)) (by omega) (by omega)) (by omega) (by omega)) (by omega) (by omega)) (by omega) (by omega)) (by omega) (by omega)) (by omega) (by omega)) (by omega) (by omega)) 6 (by omega) j) (by decide) rfl ⟨by omega, by omega⟩ (Nat.le_of_ble_eq_true rfl) (Nat.le_of_ble_eq_true rfl) dX12_init_111 ?_
  refine n_putR (pc := 113) (hol := HO 0 [19, 20, 21, 22, 23, 24, 25, 26, 27, 28, 29, 33, 34, 35, 36, 37, 40, 43, 44, 45, 46, 47, 48, 49, 50, 51, 52, 53, 54, 55, 59, 60, 61, 62, 64, 65, 66, 67, 68] []) C hin fk_RX12_66 mw_ft kf_RX12_18 m_s0 (by omega) m_k18 (fun _ => rfl) (fun _ => rfl) (ho_nin (by decide) (fun _ h => absurd h List.not_mem_nil)) m_r18 dX12_init_113 ?_
  refine n_aload_n (pc := 116) C 0 rfl rfl dX12_init_116 ?_
  refine n_iconst (pc := 117) C dX12_init_117 ?_
  refine n_newa (pc := 118) (n := 7) (t := 0) (L := 2) (atype := .int) C rfl (Or.inl ⟨rfl, rfl⟩) mA_int m_s7 (fun j => (up_z (N1 := 2) (up_z (N1 := 2) (up_z (N1 := 2) (up_z (N1 := 2) (up_z (N1 := 2) (up_z (N1 := 2) (up_z (N1 := 2) (up_z (N1 := 2) (up_z (N1 := 2) (up_z (N1 := 2) (up_z (N1 := 2) (up_z (N1 := 2) (up_z (N1 := 2) hM (by omega) (by omega)) (by omega) (by omega)) (by omega) (by omega)) (by omega) (by omega)) (by omega) (by omega)) (by omega) (by omega)) (by omega) (by omega)) (by omega) (by omega)) (by omega) (by omega)) (by omega) (by omega)) (by omega) (by omega)) (by omega) (by omega)) (by omega) (by omega)) 7 (by omega) j) (by decide) rfl ⟨by omega, by omega⟩ (Nat.le_of_ble_eq_true rfl) (Nat.le_of_ble_eq_true rfl) dX12_init_118 ?_
  refine n_putR (pc := 120) (hol := HO 0 [20, 21, 22, 23, 24, 25, 26, 27, 28, 29, 33, 34, 35, 36, 37, 40, 43, 44, 45, 46, 47, 48, 49, 50, 51, 52, 53, 54, 55, 59, 60, 61, 62, 64, 65, 66, 67, 68] []) C hin fk_RX12_69 mw_ft kf_RX12_19 m_s0 (by omega) m_k19 (fun _ => rfl) (fun _ => rfl) (ho_nin (by decide) (fun _ h => absurd h List.not_mem_nil)) m_r19 dX12_init_120 ?_
  refine n_aload_n (pc := 123) C 0 rfl rfl dX12_init_123 ?_
  refine n_bipush (pc := 124) (j := 24) C (by decide +kernel) dX12_init_124 ?_
  refine n_newa (pc := 126) (n := 8) (t := 0) (L := 24) (atype := .int) C rfl (Or.inl ⟨rfl, rfl⟩) mA_int m_s8 (fun j => (up_z (N1 := 2) (up_z (N1 := 2) (up_z (N1 := 2) (up_z (N1 := 2) (up_z (N1 := 2) (up_z (N1 := 2) (up_z (N1 := 2) (up_z (N1 := 2) (up_z (N1 := 2) (up_z (N1 := 2) (up_z (N1 := 2) (up_z (N1 := 2) (up_z (N1 := 2) hM (by omega) (by omega)) (by omega) (by omega)) (by omega) (by omega)) (by omega) (by omega)) (by omega) (by omega)) (by omega) (by omega)) (by omega) (by omega)) (by omega) (by omega)) (by omega) (by omega)) (by omega) (by omega)) (by omega) (by omega)) (by omega) (by omega)) (by omega) (by omega)) 8 (by omega) j) (by decide) rfl ⟨by omega, by omega⟩ (Nat.le_of_ble_eq_true rfl) (Nat.le_of_ble_eq_true rfl) dX12_init_126 ?_
  refine n_putR (pc := 128) (hol := HO 0 [21, 22, 23, 24, 25, 26, 27, 28, 29, 33, 34, 35, 36, 37, 40, 43, 44, 45, 46, 47, 48, 49, 50, 51, 52, 53, 54, 55, 59, 60, 61, 62, 64, 65, 66, 67, 68] []) C hin fk_RX12_72 mw_ft kf_RX12_20 m_s0 (by omega) m_k20 (fun _ => rfl) (fun _ => rfl) (ho_nin (by decide) (fun _ h => absurd h List.not_mem_nil)) m_r20 dX12_init_128 ?_
  refine n_aload_n (pc := 131) C 0 rfl rfl dX12_init_131 ?_
  refine n_bipush (pc := 132) (j := 24) C (by decide +kernel) dX12_init_132 ?_
  refine n_newa (pc := 134) (n := 9) (t := 0) (L := 24) (atype := .int) C rfl (Or.inl ⟨rfl, rfl⟩) mA_int m_s9 (fun j => (up_z (N1 := 2) (up_z (N1 := 2) (up_z (N1 := 2) (up_z (N1 := 2) (up_z (N1 := 2) (up_z (N1 := 2) (up_z (N1 := 2) (up_z (N1 := 2) (up_z (N1 := 2) (up_z (N1 := 2) (up_z (N1 := 2) (up_z (N1 := 2) (up_z (N1 := 2) hM (by omega) (by omega)) (by omega) (by omega)) (by omega) (by omega)) (by omega) (by omega)) (by omega) (by omega)) (by omega) (by omega)) (by omega) (by omega)) (by omega) (by omega)) (by omega) (by omega)) (by omega) (by omega)) (by omega) (by omega)) (by omega) (by omega)) (by omega) (by omega)) 9 (by omega) j) (by decide) rfl ⟨by omega, by omega⟩ (Nat.le_of_ble_eq_true rfl) (Nat.le_of_ble_eq_true rfl) dX12_init_134 ?_
  refine n_putR (pc := 136) (hol := HO 0 [22, 23, 24, 25, 26, 27, 28, 29, 33, 34, 35, 36, 37, 40, 43, 44, 45, 46, 47, 48, 49, 50, 51, 52, 53, 54, 55, 59, 60, 61, 62, 64, 65, 66, 67, 68] []) C hin fk_RX12_75 mw_ft kf_RX12_21 m_s0 (by omega) m_k21 (fun _ => rfl) (fun _ => rfl) (ho_nin (by decide) (fun _ h => absurd h List.not_mem_nil)) m_r21 dX12_init_136 ?_
  refine n_aload_n (pc := 139) C 0 rfl rfl dX12_init_139 ?_
  refine n_bipush (pc := 140) (j := 24) C (by decide +kernel) dX12_init_140 ?_
  refine n_newa (pc := 142) (n := 10) (t := 0) (L := 24) (atype := .int) C rfl (Or.inl ⟨rfl, rfl⟩) mA_int m_s10 (fun j => (up_z (N1 := 2) (up_z (N1 := 2) (up_z (N1 := 2) (up_z (N1 := 2) (up_z (N1 := 2) (up_z (N1 := 2) (up_z (N1 := 2) (up_z (N1 := 2) (up_z (N1 := 2) (up_z (N1 := 2) (up_z (N1 := 2) (up_z (N1 := 2) (up_z (N1 := 2) hM (by omega) (by omega)) (by omega) (by omega)) (by omega) (by omega)) (by omega) (by omega)) (by omega) (by omega)) (by omega) (by omega)) (by omega) (by omega)) (by omega) (by omega)) (by omega) (by omega)) (by omega) (by omega)) (by omega) (by omega)) (by omega) (by omega)) (by omega) (by omega)) 10 (by omega) j) (by decide) rfl ⟨by omega, by omega⟩ (Nat.le_of_ble_eq_true rfl) (Nat.le_of_ble_eq_true rfl) dX12_init_142 ?_
  refine n_putR (pc := 144) (hol := HO 0 [23, 24, 25, 26, 27, 28, 29, 33, 34, 35, 36, 37, 40, 43, 44, 45, 46, 47, 48, 49, 50, 51, 52, 53, 54, 55, 59, 60, 61, 62, 64, 65, 66, 67, 68] []) C hin fk_RX12_78 mw_ft kf_RX12_22 m_s0 (by omega) m_k22 (fun _ => rfl) (fun _ => rfl) (ho_nin (by decide) (fun _ h => absurd h List.not_mem_nil)) m_r22 dX12_init_144 ?_
  refine n_aload_n (pc := 147) C 0 rfl rfl dX12_init_147 ?_
  refine n_iconst (pc := 148) C dX12_init_148 ?_
  refine n_newa (pc := 149) (n := 11) (t := 0) (L := 2) (atype := .int) C rfl (Or.inl ⟨rfl, rfl⟩) mA_int m_s11 (fun j => (up_z (N1 := 2) (up_z (N1 := 2) (up_z (N1 := 2) (up_z (N1 := 2) (up_z (N1 := 2) (up_z (N1 := 2) (up_z (N1 := 2) (up_z (N1 := 2) (up_z (N1 := 2) (up_z (N1 := 2) (up_z (N1 := 2) (up_z (N1 := 2) (up_z (N1 := 2) hM (by omega) (by omega)) (by omega) (by omega)) (by omega) (by omega)) (by omega) (by omega)) (by omega) (by omega)) (by omega) (by omega)) (by omega) (by omega)) (by omega) (by omega)) (by omega) (by omega)) (by omega) (by omega)) (by omega) (by omega)) (by omega) (by omega)) (by omega) (by omega)) 11 (by omega) j) (by decide) rfl ⟨by omega, by omega⟩ (Nat.le_of_ble_eq_true rfl) (Nat.le_of_ble_eq_true rfl) dX12_init_149 ?_
  refine n_putR (pc := 151) (hol := HO 0 [24, 25, 26, 27, 28, 29, 33, 34, 35, 36, 37, 40, 43, 44, 45, 46, 47, 48, 49, 50, 51, 52, 53, 54, 55, 59, 60, 61, 62, 64, 65, 66, 67, 68] []) C hin fk_RX12_81 mw_ft kf_RX12_23 m_s0 (by omega) m_k23 (fun _ => rfl) (fun _ => rfl) (ho_nin (by decide) (fun _ h => absurd h List.not_mem_nil)) m_r23 dX12_init_151 ?_
  refine n_aload_n (pc := 154) C 0 rfl rfl dX12_init_154 ?_
  refine n_bipush (pc := 155) (j := 6) C (by decide +kernel) dX12_init_155 ?_
  refine n_newa (pc := 157) (n := 12) (t := 0) (L := 6) (atype := .int) C rfl (Or.inl ⟨rfl, rfl⟩) mA_int m_s12 (fun j => (up_z (N1 := 2) (up_z (N1 := 2) (up_z (N1 := 2) (up_z (N1 := 2) (up_z (N1 := 2) (up_z (N1 := 2) (up_z (N1 := 2) (up_z (N1 := 2) (up_z (N1 := 2) (up_z (N1 := 2) (up_z (N1 := 2) (up_z (N1 := 2) (up_z (N1 := 2) hM (by omega) (by omega)) (by omega) (by omega)) (by omega) (by omega)) (by omega) (by omega)) (by omega) (by omega)) (by omega) (by omega)) (by omega) (by omega)) (by omega) (by omega)) (by omega) (by omega)) (by omega) (by omega)) (by omega) (by omega)) (by omega) (by omega)) (by omega) (by omega)) 12 (by omega) j) (by decide) rfl ⟨by omega, by omega⟩ (Nat.le_of_ble_eq_true rfl) (Nat.le_of_ble_eq_true rfl) dX12_init_157 ?_
  refine n_putR (pc := 159) (hol := HO 0 [25, 26, 27, 28, 29, 33, 34, 35, 36, 37, 40, 43, 44, 45, 46, 47, 48, 49, 50, 51, 52, 53, 54, 55, 59, 60, 61, 62, 64, 65, 66, 67, 68] []) C hin fk_RX12_84 mw_ft kf_RX12_24 m_s0 (by omega) m_k24 (fun _ => rfl) (fun _ => rfl) (ho_nin (by decide) (fun _ h => absurd h List.not_mem_nil)) m_r24 dX12_init_159 ?_
  refine n_aload_n (pc := 162) C 0 rfl rfl dX12_init_162 ?_
  refine n_bipush (pc := 163) (j := 6) C (by decide +kernel) dX12_init_163 ?_
  refine n_newa (pc := 165) (n := 13) (t := 0) (L := 6) (atype := .int) C rfl (Or.inl ⟨rfl, rfl⟩) mA_int m_s13 (fun j => (up_z (N1 := 2) (up_z (N1 := 2) (up_z (N1 := 2) (up_z (N1 := 2) (up_z (N1 := 2) (up_z (N1 := 2) (up_z (N1 := 2) (up_z (N1 := 2) (up_z (N1 := 2) (up_z (N1 := 2) (up_z (N1 := 2) (up_z (N1 := 2) (up_z (N1 := 2) hM (by omega) (by omega)) (by omega) (by omega)) (by omega) (by omega)) (by omega) (by omega)) (by omega) (by omega)) (by omega) (by omega)) (by omega) (by omega)) (by omega) (by omega)) (by omega) (by omega)) (by omega) (by omega)) (by omega) (by omega)) (by omega) (by omega)) (by omega) (by omega)) 13 (by omega) j) (by decide) rfl ⟨by omega, by omega⟩ (Nat.le_of_ble_eq_true rfl) (Nat.le_of_ble_eq_true rfl) dX12_init_165 ?_
  refine n_putR (pc := 167) (hol := HO 0 [26, 27, 28, 29, 33, 34, 35, 36, 37, 40, 43, 44, 45, 46, 47, 48, 49, 50, 51, 52, 53, 54, 55, 59, 60, 61, 62, 64, 65, 66, 67, 68] []) C hin fk_RX12_87 mw_ft kf_RX12_25 m_s0 (by omega) m_k25 (fun _ => rfl) (fun _ => rfl) (ho_nin (by decide) (fun _ h => absurd h List.not_mem_nil)) m_r25 dX12_init_167 ?_
  refine n_aload_n (pc := 170) C 0 rfl rfl dX12_init_170 ?_
  refine n_sipush (pc := 171) (j := 3200) C (by decide +kernel) dX12_init_171 ?_
  refine n_newa (pc := 174) (n := 14) (t := 0) (L := 3200) (atype := .int) C rfl (Or.inl ⟨rfl, rfl⟩) mA_int m_s14 (fun j => (up_z (N1 := 2) (up_z (N1 := 2) (up_z (N1 := 2) (up_z (N1 := 2) (up_z (N1 := 2) (up_z (N1 := 2) (up_z (N1 := 2) (up_z (N1 := 2) (up_z (N1 := 2) (up_z (N1 := 2) (up_z (N1 := 2) (up_z (N1 := 2) (up_z (N1 := 2) hM (by omega) (by omega)) (by omega) (by omega)) (by omega) (by omega)) (by omega) (by omega)) (by omega) (by omega)) (by omega) (by omega)) (by omega) (by omega)) (by omega) (by omega)) (by omega) (by omega)) (by omega) (by omega)) (by omega) (by omega)) (by omega) (by omega)) (by omega) (by omega)) 14 (by omega) j) (by decide) rfl ⟨by omega, by omega⟩ (Nat.le_of_ble_eq_true rfl) (Nat.le_of_ble_eq_true rfl) dX12_init_174 ?_
  refine n_putR (pc := 176) (hol := HO 0 [27, 28, 29, 33, 34, 35, 36, 37, 40, 43, 44, 45, 46, 47, 48, 49, 50, 51, 52, 53, 54, 55, 59, 60, 61, 62, 64, 65, 66, 67, 68] []) C hin fk_RX12_90 mw_ft kf_RX12_26 m_s0 (by omega) m_k26 (fun _ => rfl) (fun _ => rfl) (ho_nin (by decide) (fun _ h => absurd h List.not_mem_nil)) m_r26 dX12_init_176 ?_
  refine n_aload_n (pc := 179) C 0 rfl rfl dX12_init_179 ?_
  refine n_sipush (pc := 180) (j := 3200) C (by decide +kernel) dX12_init_180 ?_
  refine n_newa (pc := 183) (n := 15) (t := 0) (L := 3200) (atype := .int) C rfl (Or.inl ⟨rfl, rfl⟩) mA_int m_s15 (fun j => (up_z (N1 := 2) (up_z (N1 := 2) (up_z (N1 := 2) (up_z (N1 := 2) (up_z (N1 := 2) (up_z (N1 := 2) (up_z (N1 := 2) (up_z (N1 := 2) (up_z (N1 := 2) (up_z (N1 := 2) (up_z (N1 := 2) (up_z (N1 := 2) (up_z (N1 := 2) hM (by omega) (by omega)) (by omega) (by omega)) (by omega) (by omega)) (by omega) (by omega)) (by omega) (by omega)) (by omega) (by omega)) (by omega) (by omega)) (by omega) (by omega)) (by omega) (by omega)) (by omega) (by omega)) (by omega) (by omega)) (by omega) (by omega)) (by omega) (by omega)) 15 (by omega) j) (by decide) rfl ⟨by omega, by omega⟩ (Nat.le_of_ble_eq_true rfl) (Nat.le_of_ble_eq_true rfl) dX12_init_183 ?_
  refine n_putR (pc := 185) (hol := HO 0 [28, 29, 33, 34, 35, 36, 37, 40, 43, 44, 45, 46, 47, 48, 49, 50, 51, 52, 53, 54, 55, 59, 60, 61, 62, 64, 65, 66, 67, 68] []) C hin fk_RX12_93 mw_ft kf_RX12_27 m_s0 (by omega) m_k27 (fun _ => rfl) (fun _ => rfl) (ho_nin (by decide) (fun _ h => absurd h List.not_mem_nil)) m_r27 dX12_init_185 ?_
  refine n_aload_n (pc := 188) C 0 rfl rfl dX12_init_188 ?_
  refine n_bipush (pc := 189) (j := 14) C (by decide +kernel) dX12_init_189 ?_
  refine n_newa (pc := 191) (n := 16) (t := 1) (L := 14) (atype := .long) C rfl (Or.inr (Or.inl ⟨rfl, rfl⟩)) mA_long m_s16 (fun j => (up_z (N1 := 2) (up_z (N1 := 2) (up_z (N1 := 2) (up_z (N1 := 2) (up_z (N1 := 2) (up_z (N1 := 2) (up_z (N1 := 2) (up_z (N1 := 2) (up_z (N1 := 2) (up_z (N1 := 2) (up_z (N1 := 2) (up_z (N1 := 2) (up_z (N1 := 2) hM (by omega) (by omega)) (by omega) (by omega)) (by omega) (by omega)) (by omega) (by omega)) (by omega) (by omega)) (by omega) (by omega)) (by omega) (by omega)) (by omega) (by omega)) (by omega) (by omega)) (by omega) (by omega)) (by omega) (by omega)) (by omega) (by omega)) (by omega) (by omega)) 16 (by omega) j) (by decide) rfl ⟨by omega, by omega⟩ (Nat.le_of_ble_eq_true rfl) (Nat.le_of_ble_eq_true rfl) dX12_init_191 ?_
  refine n_putR (pc := 193) (hol := HO 0 [29, 33, 34, 35, 36, 37, 40, 43, 44, 45, 46, 47, 48, 49, 50, 51, 52, 53, 54, 55, 59, 60, 61, 62, 64, 65, 66, 67, 68] []) C hin fk_RX12_96 mw_ft kf_RX12_28 m_s0 (by omega) m_k28 (fun _ => rfl) (fun _ => rfl) (ho_nin (by decide) (fun _ h => absurd h List.not_mem_nil)) m_r28 dX12_init_193 ?_
  refine n_aload_n (pc := 196) C 0 rfl rfl dX12_init_196 ?_
  refine n_bipush (pc := 197) (j := 16) C (by decide +kernel) dX12_init_197 ?_
  refine n_newa (pc := 199) (n := 17) (t := 1) (L := 16) (atype := .long) C rfl (Or.inr (Or.inl ⟨rfl, rfl⟩)) mA_long m_s17 (fun j => (up_z (N1 := 2) (up_z (N1 := 2) (up_z (N1 := 2) (up_z (N1 := 2) (up_z (N1 := 2) (up_z (N1 := 2) (up_z (N1 := 2) (up_z (N1 := 2) (up_z (N1 := 2) (up_z (N1 := 2) (up_z (N1 := 2) (up_z (N1 := 2) (up_z (N1 := 2) hM (by omega) (by omega)) (by omega) (by omega)) (by omega) (by omega)) (by omega) (by omega)) (by omega) (by omega)) (by omega) (by omega)) (by omega) (by omega)) (by omega) (by omega)) (by omega) (by omega)) (by omega) (by omega)) (by omega) (by omega)) (by omega) (by omega)) (by omega) (by omega)) 17 (by omega) j) (by decide) rfl ⟨by omega, by omega⟩ (Nat.le_of_ble_eq_true rfl) (Nat.le_of_ble_eq_true rfl) dX12_init_199 ?_
  refine n_putR (pc := 201) (hol := HO 0 [33, 34, 35, 36, 37, 40, 43, 44, 45, 46, 47, 48, 49, 50, 51, 52, 53, 54, 55, 59, 60, 61, 62, 64, 65, 66, 67, 68] []) C hin fk_RX12_100 mw_ft kf_RX12_29 m_s0 (by omega) m_k29 (fun _ => rfl) (fun _ => rfl) (ho_nin (by decide) (fun _ h => absurd h List.not_mem_nil)) m_r29 dX12_init_201 ?_
  refine n_aload_n (pc := 204) C 0 rfl rfl dX12_init_204 ?_
  refine n_iconst (pc := 205) C dX12_init_205 ?_
  refine n_putI (pc := 206) C fk_RX12_103 mw_ft m_w30 m_s0 (by omega) m_k30 dX12_init_206 ?_
  refine n_aload_n (pc := 209) C 0 rfl rfl dX12_init_209 ?_
  refine n_iconst (pc := 210) C dX12_init_210 ?_
  refine n_putI (pc := 211) C fk_RX12_106 mw_ft m_w31 m_s0 (by omega) m_k31 dX12_init_211 ?_
  refine n_aload_n (pc := 214) C 0 rfl rfl dX12_init_214 ?_
  refine n_iconst (pc := 215) C dX12_init_215 ?_
  refine n_putI (pc := 216) C fk_RX12_109 mw_ft m_w32 m_s0 (by omega) m_k32 dX12_init_216 ?_
  refine n_aload_n (pc := 219) C 0 rfl rfl dX12_init_219 ?_
  refine n_bipush (pc := 220) (j := 20) C (by decide +kernel) dX12_init_220 ?_
  refine n_newa (pc := 222) (n := 18) (t := 0) (L := 20) (atype := .int) C rfl (Or.inl ⟨rfl, rfl⟩) mA_int m_s18 (fun j => (up_z (N1 := 18) (up_z (N1 := 18) (up_z (N1 := 18) (up_z (N1 := 2) (up_z (N1 := 2) (up_z (N1 := 2) (up_z (N1 := 2) (up_z (N1 := 2) (up_z (N1 := 2) (up_z (N1 := 2) (up_z (N1 := 2) (up_z (N1 := 2) (up_z (N1 := 2) (up_z (N1 := 2) (up_z (N1 := 2) (up_z (N1 := 2) hM (by omega) (by omega)) (by omega) (by omega)) (by omega) (by omega)) (by omega) (by omega)) (by omega) (by omega)) (by omega) (by omega)) (by omega) (by omega)) (by omega) (by omega)) (by omega) (by omega)) (by omega) (by omega)) (by omega) (by omega)) (by omega) (by omega)) (by omega) (by omega)) (by omega) (by omega)) (by omega) (by omega)) (by omega) (by omega)) 18 (by omega) j) (by decide) rfl ⟨by omega, by omega⟩ (Nat.le_of_ble_eq_true rfl) (Nat.le_of_ble_eq_true rfl) dX12_init_222 ?_
  refine n_putR (pc := 224) (hol := HO 0 [34, 35, 36, 37, 40, 43, 44, 45, 46, 47, 48, 49, 50, 51, 52, 53, 54, 55, 59, 60, 61, 62, 64, 65, 66, 67, 68] []) C hin fk_RX12_112 mw_ft kf_RX12_33 m_s0 (by omega) m_k33 (fun _ => rfl) (fun _ => rfl) (ho_nin (by decide) (fun _ h => absurd h List.not_mem_nil)) m_r33 dX12_init_224 ?_
  refine n_aload_n (pc := 227) C 0 rfl rfl dX12_init_227 ?_
  refine n_bipush (pc := 228) (j := 20) C (by decide +kernel) dX12_init_228 ?_
  refine n_newa (pc := 230) (n := 19) (t := 0) (L := 20) (atype := .int) C rfl (Or.inl ⟨rfl, rfl⟩) mA_int m_s19 (fun j => (up_z (N1 := 18) (up_z (N1 := 18) (up_z (N1 := 18) (up_z (N1 := 2) (up_z (N1 := 2) (up_z (N1 := 2) (up_z (N1 := 2) (up_z (N1 := 2) (up_z (N1 := 2) (up_z (N1 := 2) (up_z (N1 := 2) (up_z (N1 := 2) (up_z (N1 := 2) (up_z (N1 := 2) (up_z (N1 := 2) (up_z (N1 := 2) hM (by omega) (by omega)) (by omega) (by omega)) (by omega) (by omega)) (by omega) (by omega)) (by omega) (by omega)) (by omega) (by omega)) (by omega) (by omega)) (by omega) (by omega)) (by omega) (by omega)) (by omega) (by omega)) (by omega) (by omega)) (by omega) (by omega)) (by omega) (by omega)) (by omega) (by omega)) (by omega) (by omega)) (by omega) (by omega)) 19 (by omega) j) (by decide) rfl ⟨by omega, by omega⟩ (Nat.le_of_ble_eq_true rfl) (Nat.le_of_ble_eq_true rfl) dX12_init_230 ?_
  refine n_putR (pc := 232) (hol := HO 0 [35, 36, 37, 40, 43, 44, 45, 46, 47, 48, 49, 50, 51, 52, 53, 54, 55, 59, 60, 61, 62, 64, 65, 66, 67, 68] []) C hin fk_RX12_115 mw_ft kf_RX12_34 m_s0 (by omega) m_k34 (fun _ => rfl) (fun _ => rfl) (ho_nin (by decide) (fun _ h => absurd h List.not_mem_nil)) m_r34 dX12_init_232 ?_
  refine n_aload_n (pc := 235) C 0 rfl rfl dX12_init_235 ?_
  refine n_bipush (pc := 236) (j := 20) C (by decide +kernel) dX12_init_236 ?_
  refine n_newa (pc := 238) (n := 20) (t := 2) (L := 20) (atype := .boolean) C rfl (Or.inr (Or.inr ⟨rfl, rfl⟩)) mA_boolean m_s20 (fun j => (up_z (N1 := 18) (up_z (N1 := 18) (up_z (N1 := 18) (up_z (N1 := 2) (up_z (N1 := 2) (up_z (N1 := 2) (up_z (N1 := 2) (up_z (N1 := 2) (up_z (N1 := 2) (up_z (N1 := 2) (up_z (N1 := 2) (up_z (N1 := 2) (up_z (N1 := 2) (up_z (N1 := 2) (up_z (N1 := 2) (up_z (N1 := 2) hM (by omega) (by omega)) (by omega) (by omega)) (by omega) (by omega)) (by omega) (by omega)) (by omega) (by omega)) (by omega) (by omega)) (by omega) (by omega)) (by omega) (by omega)) (by omega) (by omega)) (by omega) (by omega)) (by omega) (by omega)) (by omega) (by omega)) (by omega) (by omega)) (by omega) (by omega)) (by omega) (by omega)) (by omega) (by omega)) 20 (by omega) j) (by decide) rfl ⟨by omega, by omega⟩ (Nat.le_of_ble_eq_true rfl) (Nat.le_of_ble_eq_true rfl) dX12_init_238 ?_
  refine n_putR (pc := 240) (hol := HO 0 [36, 37, 40, 43, 44, 45, 46, 47, 48, 49, 50, 51, 52, 53, 54, 55, 59, 60, 61, 62, 64, 65, 66, 67, 68] []) C hin fk_RX12_118 mw_ft kf_RX12_35 m_s0 (by omega) m_k35 (fun _ => rfl) (fun _ => rfl) (ho_nin (by decide) (fun _ h => absurd h List.not_mem_nil)) m_r35 dX12_init_240 ?_
  refine n_aload_n (pc := 243) C 0 rfl rfl dX12_init_243 ?_
  refine n_bipush (pc := 244) (j := 20) C (by decide +kernel) dX12_init_244 ?_
  refine n_newa (pc := 246) (n := 21) (t := 0) (L := 20) (atype := .int) C rfl (Or.inl ⟨rfl, rfl⟩) mA_int m_s21 (fun j => (up_z (N1 := 18) (up_z (N1 := 18) (up_z (N1 := 18) (up_z (N1 := 2) (up_z (N1 := 2) (up_z (N1 := 2) (up_z (N1 := 2) (up_z (N1 := 2) (up_z (N1 := 2) (up_z (N1 := 2) (up_z (N1 := 2) (up_z (N1 := 2) (up_z (N1 := 2) (up_z (N1 := 2) (up_z (N1 := 2) (up_z (N1 := 2) hM (by omega) (by omega)) (by omega) (by omega)) (by omega) (by omega)) (by omega) (by omega)) (by omega) (by omega)) (by omega) (by omega)) (by omega) (by omega)) (by omega) (by omega)) (by omega) (by omega)) (by omega) (by omega)) (by omega) (by omega)) (by omega) (by omega)) (by omega) (by omega)) (by omega) (by omega)) (by omega) (by omega)) (by omega) (by omega)) 21 (by omega) j) (by decide) rfl ⟨by omega, by omega⟩ (Nat.le_of_ble_eq_true rfl) (Nat.le_of_ble_eq_true rfl) dX12_init_246 ?_
  refine n_putR (pc := 248) (hol := HO 0 [37, 40, 43, 44, 45, 46, 47, 48, 49, 50, 51, 52, 53, 54, 55, 59, 60, 61, 62, 64, 65, 66, 67, 68] []) C hin fk_RX12_122 mw_ft kf_RX12_36 m_s0 (by omega) m_k36 (fun _ => rfl) (fun _ => rfl) (ho_nin (by decide) (fun _ h => absurd h List.not_mem_nil)) m_r36 dX12_init_248 ?_
  refine n_aload_n (pc := 251) C 0 rfl rfl dX12_init_251 ?_
  refine n_bipush (pc := 252) (j := 20) C (by decide +kernel) dX12_init_252 ?_
  refine n_newa (pc := 254) (n := 22) (t := 0) (L := 20) (atype := .int) C rfl (Or.inl ⟨rfl, rfl⟩) mA_int m_s22 (fun j => (up_z (N1 := 18) (up_z (N1 := 18) (up_z (N1 := 18) (up_z (N1 := 2) (up_z (N1 := 2) (up_z (N1 := 2) (up_z (N1 := 2) (up_z (N1 := 2) (up_z (N1 := 2) (up_z (N1 := 2) (up_z (N1 := 2) (up_z (N1 := 2) (up_z (N1 := 2) (up_z (N1 := 2) (up_z (N1 := 2) (up_z (N1 := 2) hM (by omega) (by omega)) (by omega) (by omega)) (by omega) (by omega)) (by omega) (by omega)) (by omega) (by omega)) (by omega) (by omega)) (by omega) (by omega)) (by omega) (by omega)) (by omega) (by omega)) (by omega) (by omega)) (by omega) (by omega)) (by omega) (by omega)) (by omega) (by omega)) (by omega) (by omega)) (by omega) (by omega)) (by omega) (by omega)) 22 (by omega) j) (by decide) rfl ⟨by omega, by omega⟩ (Nat.le_of_ble_eq_true rfl) (Nat.le_of_ble_eq_true rfl) dX12_init_254 ?_
  refine n_putR (pc := 256) (hol := HO 0 [40, 43, 44, 45, 46, 47, 48, 49, 50, 51, 52, 53, 54, 55, 59, 60, 61, 62, 64, 65, 66, 67, 68] []) C hin fk_RX12_125 mw_ft kf_RX12_37 m_s0 (by omega) m_k37 (fun _ => rfl) (fun _ => rfl) (ho_nin (by decide) (fun _ h => absurd h List.not_mem_nil)) m_r37 dX12_init_256 ?_
  refine n_aload_n (pc := 259) C 0 rfl rfl dX12_init_259 ?_
  refine n_iconst (pc := 260) C dX12_init_260 ?_
  refine n_putI (pc := 261) C fk_RX12_128 mw_ft m_w38 m_s0 (by omega) m_k38 dX12_init_261 ?_
  refine n_aload_n (pc := 264) C 0 rfl rfl dX12_init_264 ?_
  refine n_iconst (pc := 265) C dX12_init_265 ?_
  refine n_putI (pc := 266) C fk_RX12_131 mw_ft m_w39 m_s0 (by omega) m_k39 dX12_init_266 ?_
  refine n_aload_n (pc := 269) C 0 rfl rfl dX12_init_269 ?_
  refine n_sipush (pc := 270) (j := 500) C (by decide +kernel) dX12_init_270 ?_
  refine n_newa (pc := 273) (n := 23) (t := 0) (L := 500) (atype := .int) C rfl (Or.inl ⟨rfl, rfl⟩) mA_int m_s23 (fun j => (up_z (N1 := 23) (up_z (N1 := 23) (up_z (N1 := 18) (up_z (N1 := 18) (up_z (N1 := 18) (up_z (N1 := 2) (up_z (N1 := 2) (up_z (N1 := 2) (up_z (N1 := 2) (up_z (N1 := 2) (up_z (N1 := 2) (up_z (N1 := 2) (up_z (N1 := 2) (up_z (N1 := 2) (up_z (N1 := 2) (up_z (N1 := 2) (up_z (N1 := 2) (up_z (N1 := 2) hM (by omega) (by omega)) (by omega) (by omega)) (by omega) (by omega)) (by omega) (by omega)) (by omega) (by omega)) (by omega) (by omega)) (by omega) (by omega)) (by omega) (by omega)) (by omega) (by omega)) (by omega) (by omega)) (by omega) (by omega)) (by omega) (by omega)) (by omega) (by omega)) (by omega) (by omega)) (by omega) (by omega)) (by omega) (by omega)) (by omega) (by omega)) (by omega) (by omega)) 23 (by omega) j) (by decide) rfl ⟨by omega, by omega⟩ (Nat.le_of_ble_eq_true rfl) (Nat.le_of_ble_eq_true rfl) dX12_init_273 ?_
  refine n_putR (pc := 275) (hol := HO 0 [43, 44, 45, 46, 47, 48, 49, 50, 51, 52, 53, 54, 55, 59, 60, 61, 62, 64, 65, 66, 67, 68] []) C hin fk_RX12_134 mw_ft kf_RX12_40 m_s0 (by omega) m_k40 (fun _ => rfl) (fun _ => rfl) (ho_nin (by decide) (fun _ h => absurd h List.not_mem_nil)) m_r40 dX12_init_275 ?_
  refine n_aload_n (pc := 278) C 0 rfl rfl dX12_init_278 ?_
  refine n_iconst (pc := 279) C dX12_init_279 ?_
  refine n_putI (pc := 280) C fk_RX12_137 mw_ft m_w41 m_s0 (by omega) m_k41 dX12_init_280 ?_
  refine n_aload_n (pc := 283) C 0 rfl rfl dX12_init_283 ?_
  refine n_iconst (pc := 284) C dX12_init_284 ?_
  refine n_putZ (pc := 285) C fk_RX12_140 mw_ft m_w42 m_s0 (by omega) m_k42 (Or.inl rfl) dX12_init_285 ?_
  refine n_aload_n (pc := 288) C 0 rfl rfl dX12_init_288 ?_
  refine n_bipush (pc := 289) (j := 6) C (by decide +kernel) dX12_init_289 ?_
  refine n_newa (pc := 291) (n := 24) (t := 0) (L := 6) (atype := .int) C rfl (Or.inl ⟨rfl, rfl⟩) mA_int m_s24 (fun j => (up_z (N1 := 24) (up_z (N1 := 24) (up_z (N1 := 23) (up_z (N1 := 23) (up_z (N1 := 18) (up_z (N1 := 18) (up_z (N1 := 18) (up_z (N1 := 2) (up_z (N1 := 2) (up_z (N1 := 2) (up_z (N1 := 2) (up_z (N1 := 2) (up_z (N1 := 2) (up_z (N1 := 2) (up_z (N1 := 2) (up_z (N1 := 2) (up_z (N1 := 2) (up_z (N1 := 2) (up_z (N1 := 2) (up_z (N1 := 2) hM (by omega) (by omega)) (by omega) (by omega)) (by omega) (by omega)) (by omega) (by omega)) (by omega) (by omega)) (by omega) (by omega)) (by omega) (by omega)) (by omega) (by omega)) (by omega) (by omega)) (by omega) (by omega)) (by omega) (by omega)) (by omega) (by omega)) (by omega) (by omega)) (by omega) (by omega)) (by omega) (by omega)) (by omega) (by omega)) (by omega) (by omega)) (by omega) (by omega)) (by omega) (by omega)) (by omega) (by omega)) 24 (by omega) j) (by decide) rfl ⟨by omega, by omega⟩ (Nat.le_of_ble_eq_true rfl) (Nat.le_of_ble_eq_true rfl) dX12_init_291 ?_
  refine n_putR (pc := 293) (hol := HO 0 [44, 45, 46, 47, 48, 49, 50, 51, 52, 53, 54, 55, 59, 60, 61, 62, 64, 65, 66, 67, 68] []) C hin fk_RX12_144 mw_ft kf_RX12_43 m_s0 (by omega) m_k43 (fun _ => rfl) (fun _ => rfl) (ho_nin (by decide) (fun _ h => absurd h List.not_mem_nil)) m_r43 dX12_init_293 ?_
  refine n_aload_n (pc := 296) C 0 rfl rfl dX12_init_296 ?_
  refine n_bipush (pc := 297) (j := 22) C (by decide +kernel) dX12_init_297 ?_
  refine n_newa (pc := 299) (n := 25) (t := 0) (L := 22) (atype := .int) C rfl (Or.inl ⟨rfl, rfl⟩) mA_int m_s25 (fun j => (up_z (N1 := 24) (up_z (N1 := 24) (up_z (N1 := 23) (up_z (N1 := 23) (up_z (N1 := 18) (up_z (N1 := 18) (up_z (N1 := 18) (up_z (N1 := 2) (up_z (N1 := 2) (up_z (N1 := 2) (up_z (N1 := 2) (up_z (N1 := 2) (up_z (N1 := 2) (up_z (N1 := 2) (up_z (N1 := 2) (up_z (N1 := 2) (up_z (N1 := 2) (up_z (N1 := 2) (up_z (N1 := 2) (up_z (N1 := 2) hM (by omega) (by omega)) (by omega) (by omega)) (by omega) (by omega)) (by omega) (by omega)) (by omega) (by omega)) (by omega) (by omega)) (by omega) (by omega)) (by omega) (by omega)) (by omega) (by omega)) (by omega) (by omega)) (by omega) (by omega)) (by omega) (by omega)) (by omega) (by omega)) (by omega) (by omega)) (by omega) (by omega)) (by omega) (by omega)) (by omega) (by omega)) (by omega) (by omega)) (by omega) (by omega)) (by omega) (by omega)) 25 (by omega) j) (by decide) rfl ⟨by omega, by omega⟩ (Nat.le_of_ble_eq_true rfl) (Nat.le_of_ble_eq_true rfl) dX12_init_299 ?_
  refine n_putR (pc := 301) (hol := HO 0 [45, 46, 47, 48, 49, 50, 51, 52, 53, 54, 55, 59, 60, 61, 62, 64, 65, 66, 67, 68] []) C hin fk_RX12_147 mw_ft kf_RX12_44 m_s0 (by omega) m_k44 (fun _ => rfl) (fun _ => rfl) (ho_nin (by decide) (fun _ h => absurd h List.not_mem_nil)) m_r44 dX12_init_301 ?_
  refine n_aload_n (pc := 304) C 0 rfl rfl dX12_init_304 ?_
  refine n_sipush (pc := 305) (j := 154) C (by decide +kernel) dX12_init_305 ?_
  refine n_newa (pc := 308) (n := 26) (t := 0) (L := 154) (atype := .int) C rfl (Or.inl ⟨rfl, rfl⟩) mA_int m_s26 (fun j => (up_z (N1 := 24) (up_z (N1 := 24) (up_z (N1 := 23) (up_z (N1 := 23) (up_z (N1 := 18) (up_z (N1 := 18) (up_z (N1 := 18) (up_z (N1 := 2) (up_z (N1 := 2) (up_z (N1 := 2) (up_z (N1 := 2) (up_z (N1 := 2) (up_z (N1 := 2) (up_z (N1 := 2) (up_z (N1 := 2) (up_z (N1 := 2) (up_z (N1 := 2) (up_z (N1 := 2) (up_z (N1 := 2) (up_z (N1 := 2) hM (by omega) (by omega)) (by omega) (by omega)) (by omega) (by omega)) (by omega) (by omega)) (by omega) (by omega)) (by omega) (by omega)) (by omega) (by omega)) (by omega) (by omega)) (by omega) (by omega)) (by omega) (by omega)) (by omega) (by omega)) (by omega) (by omega)) (by omega) (by omega)) (by omega) (by omega)) (by omega) (by omega)) (by omega) (by omega)) (by omega) (by omega)) (by omega) (by omega)) (by omega) (by omega)) (by omega) (by omega)) 26 (by omega) j) (by decide) rfl ⟨by omega, by omega⟩ (Nat.le_of_ble_eq_true rfl) (Nat.le_of_ble_eq_true rfl) dX12_init_308 ?_
  refine n_putR (pc := 310) (hol := HO 0 [46, 47, 48, 49, 50, 51, 52, 53, 54, 55, 59, 60, 61, 62, 64, 65, 66, 67, 68] []) C hin fk_RX12_150 mw_ft kf_RX12_45 m_s0 (by omega) m_k45 (fun _ => rfl) (fun _ => rfl) (ho_nin (by decide) (fun _ h => absurd h List.not_mem_nil)) m_r45 dX12_init_310 ?_
  refine n_aload_n (pc := 313) C 0 rfl rfl dX12_init_313 ?_
  refine n_sipush (pc := 314) (j := 154) C (by decide +kernel) dX12_init_314 ?_
  refine n_newa (pc := 317) (n := 27) (t := 0) (L := 154) (atype := .int) C rfl (Or.inl ⟨rfl, rfl⟩) mA_int m_s27 (fun j => (up_z (N1 := 24) (up_z (N1 := 24) (up_z (N1 := 23) (up_z (N1 := 23) (up_z (N1 := 18) (up_z (N1 := 18) (up_z (N1 := 18) (up_z (N1 := 2) (up_z (N1 := 2) (up_z (N1 := 2) (up_z (N1 := 2) (up_z (N1 := 2) (up_z (N1 := 2) (up_z (N1 := 2) (up_z (N1 := 2) (up_z (N1 := 2) (up_z (N1 := 2) (up_z (N1 := 2) (up_z (N1 := 2) (up_z (N1 := 2) hM (by omega) (by omega)) (by omega) (by omega)) (by omega) (by omega)) (by omega) (by omega)) (by omega) (by omega)) (by omega) (by omega)) (by omega) (by omega)) (by omega) (by omega)) (by omega) (by omega)) (by omega) (by omega)) (by omega) (by omega)) (by omega) (by omega)) (by omega) (by omega)) (by omega) (by omega)) (by omega) (by omega)) (by omega) (by omega)) (by omega) (by omega)) (by omega) (by omega)) (by omega) (by omega)) (by omega) (by omega)) 27 (by omega) j) (by decide) rfl ⟨by omega, by omega⟩ (Nat.le_of_ble_eq_true rfl) (Nat.le_of_ble_eq_true rfl) dX12_init_317 ?_
  refine n_putR (pc := 319) (hol := HO 0 [47, 48, 49, 50, 51, 52, 53, 54, 55, 59, 60, 61, 62, 64, 65, 66, 67, 68] []) C hin fk_RX12_153 mw_ft kf_RX12_46 m_s0 (by omega) m_k46 (fun _ => rfl) (fun _ => rfl) (ho_nin (by decide) (fun _ h => absurd h List.not_mem_nil)) m_r46 dX12_init_319 ?_
  refine n_aload_n (pc := 322) C 0 rfl rfl dX12_init_322 ?_
  refine n_bipush (pc := 323) (j := 22) C (by decide +kernel) dX12_init_323 ?_
  refine n_newa (pc := 325) (n := 28) (t := 0) (L := 22) (atype := .int) C rfl (Or.inl ⟨rfl, rfl⟩) mA_int m_s28 (fun j => (up_z (N1 := 24) (up_z (N1 := 24) (up_z (N1 := 23) (up_z (N1 := 23) (up_z (N1 := 18) (up_z (N1 := 18) (up_z (N1 := 18) (up_z (N1 := 2) (up_z (N1 := 2) (up_z (N1 := 2) (up_z (N1 := 2) (up_z (N1 := 2) (up_z (N1 := 2) (up_z (N1 := 2) (up_z (N1 := 2) (up_z (N1 := 2) (up_z (N1 := 2) (up_z (N1 := 2) (up_z (N1 := 2) (up_z (N1 := 2) hM (by omega) (by omega)) (by omega) (by omega)) (by omega) (by omega)) (by omega) (by omega)) (by omega) (by omega)) (by omega) (by omega)) (by omega) (by omega)) (by omega) (by omega)) (by omega) (by omega)) (by omega) (by omega)) (by omega) (by omega)) (by omega) (by omega)) (by omega) (by omega)) (by omega) (by omega)) (by omega) (by omega)) (by omega) (by omega)) (by omega) (by omega)) (by omega) (by omega)) (by omega) (by omega)) (by omega) (by omega)) 28 (by omega) j) (by decide) rfl ⟨by omega, by omega⟩ (Nat.le_of_ble_eq_true rfl) (Nat.le_of_ble_eq_true rfl) dX12_init_325 ?_
  refine n_putR (pc := 327) (hol := HO 0 [48, 49, 50, 51, 52, 53, 54, 55, 59, 60, 61, 62, 64, 65, 66, 67, 68] []) C hin fk_RX12_156 mw_ft kf_RX12_47 m_s0 (by omega) m_k47 (fun _ => rfl) (fun _ => rfl) (ho_nin (by decide) (fun _ h => absurd h List.not_mem_nil)) m_r47 dX12_init_327 ?_
  refine n_aload_n (pc := 330) C 0 rfl rfl dX12_init_330 ?_
  refine n_sipush (pc := 331) (j := 264) C (by decide +kernel) dX12_init_331 ?_
  refine n_newa (pc := 334) (n := 29) (t := 0) (L := 264) (atype := .int) C rfl (Or.inl ⟨rfl, rfl⟩) mA_int m_s29 (fun j => (up_z (N1 := 24) (up_z (N1 := 24) (up_z (N1 := 23) (up_z (N1 := 23) (up_z (N1 := 18) (up_z (N1 := 18) (up_z (N1 := 18) (up_z (N1 := 2) (up_z (N1 := 2) (up_z (N1 := 2) (up_z (N1 := 2) (up_z (N1 := 2) (up_z (N1 := 2) (up_z (N1 := 2) (up_z (N1 := 2) (up_z (N1 := 2) (up_z (N1 := 2) (up_z (N1 := 2) (up_z (N1 := 2) (up_z (N1 := 2) hM (by omega) (by omega)) (by omega) (by omega)) (by omega) (by omega)) (by omega) (by omega)) (by omega) (by omega)) (by omega) (by omega)) (by omega) (by omega)) (by omega) (by omega)) (by omega) (by omega)) (by omega) (by omega)) (by omega) (by omega)) (by omega) (by omega)) (by omega) (by omega)) (by omega) (by omega)) (by omega) (by omega)) (by omega) (by omega)) (by omega) (by omega)) (by omega) (by omega)) (by omega) (by omega)) (by omega) (by omega)) 29 (by omega) j) (by decide) rfl ⟨by omega, by omega⟩ (Nat.le_of_ble_eq_true rfl) (Nat.le_of_ble_eq_true rfl) dX12_init_334 ?_
  refine n_putR (pc := 336) (hol := HO 0 [49, 50, 51, 52, 53, 54, 55, 59, 60, 61, 62, 64, 65, 66, 67, 68] []) C hin fk_RX12_159 mw_ft kf_RX12_48 m_s0 (by omega) m_k48 (fun _ => rfl) (fun _ => rfl) (ho_nin (by decide) (fun _ h => absurd h List.not_mem_nil)) m_r48 dX12_init_336 ?_
  refine n_aload_n (pc := 339) C 0 rfl rfl dX12_init_339 ?_
  refine n_sipush (pc := 340) (j := 264) C (by decide +kernel) dX12_init_340 ?_
  refine n_newa (pc := 343) (n := 30) (t := 0) (L := 264) (atype := .int) C rfl (Or.inl ⟨rfl, rfl⟩) mA_int m_s30 (fun j => (up_z (N1 := 24) (up_z (N1 := 24) (up_z (N1 := 23) (up_z (N1 := 23) (up_z (N1 := 18) (up_z (N1 := 18) (up_z (N1 := 18) (up_z (N1 := 2) (up_z (N1 := 2) (up_z (N1 := 2) (up_z (N1 := 2) (up_z (N1 := 2) (up_z (N1 := 2) (up_z (N1 := 2) (up_z (N1 := 2) (up_z (N1 := 2) (up_z (N1 := 2) (up_z (N1 := 2) (up_z (N1 := 2) (up_z (N1 := 2) hM (by omega) (by omega)) (by omega) (by omega)) (by omega) (by omega)) (by omega) (by omega)) (by omega) (by omega)) (by omega) (by omega)) (by omega) (by omega)) (by omega) (by omega)) (by omega) (by omega)) (by omega) (by omega)) (by omega) (by omega)) (by omega) (by omega)) (by omega) (by omega)) (by omega) (by omega)) (by omega) (by omega)) (by omega) (by omega)) (by omega) (by omega)) (by omega) (by omega)) (by omega) (by omega)) (by omega) (by omega)) 30 (by omega) j) (by decide) rfl ⟨by omega, by omega⟩ (Nat.le_of_ble_eq_true rfl) (Nat.le_of_ble_eq_true rfl) dX12_init_343 ?_
  refine n_putR (pc := 345) (hol := HO 0 [50, 51, 52, 53, 54, 55, 59, 60, 61, 62, 64, 65, 66, 67, 68] []) C hin fk_RX12_162 mw_ft kf_RX12_49 m_s0 (by omega) m_k49 (fun _ => rfl) (fun _ => rfl) (ho_nin (by decide) (fun _ h => absurd h List.not_mem_nil)) m_r49 dX12_init_345 ?_
  refine n_aload_n (pc := 348) C 0 rfl rfl dX12_init_348 ?_
  refine n_sipush (pc := 349) (j := 264) C (by decide +kernel) dX12_init_349 ?_
  refine n_newa (pc := 352) (n := 31) (t := 0) (L := 264) (atype := .int) C rfl (Or.inl ⟨rfl, rfl⟩) mA_int m_s31 (fun j => (up_z (N1 := 24) (up_z (N1 := 24) (up_z (N1 := 23) (up_z (N1 := 23) (up_z (N1 := 18) (up_z (N1 := 18) (up_z (N1 := 18) (up_z (N1 := 2) (up_z (N1 := 2) (up_z (N1 := 2) (up_z (N1 := 2) (up_z (N1 := 2) (up_z (N1 := 2) (up_z (N1 := 2) (up_z (N1 := 2) (up_z (N1 := 2) (up_z (N1 := 2) (up_z (N1 := 2) (up_z (N1 := 2) (up_z (N1 := 2) hM (by omega) (by omega)) (by omega) (by omega)) (by omega) (by omega)) (by omega) (by omega)) (by omega) (by omega)) (by omega) (by omega)) (by omega) (by omega)) (by omega) (by omega)) (by omega) (by omega)) (by omega) (by omega)) (by omega) (by omega)) (by omega) (by omega)) (by omega) (by omega)) (by omega) (by omega)) (by omega) (by omega)) (by omega) (by omega)) (by omega) (by omega)) (by omega) (by omega)) (by omega) (by omega)) (by omega) (by omega)) 31 (by omega) j) (by decide) rfl ⟨by omega, by omega⟩ (Nat.le_of_ble_eq_true rfl) (Nat.le_of_ble_eq_true rfl) dX12_init_352 ?_
  refine n_putR (pc := 354) (hol := HO 0 [51, 52, 53, 54, 55, 59, 60, 61, 62, 64, 65, 66, 67, 68] []) C hin fk_RX12_165 mw_ft kf_RX12_50 m_s0 (by omega) m_k50 (fun _ => rfl) (fun _ => rfl) (ho_nin (by decide) (fun _ h => absurd h List.not_mem_nil)) m_r50 dX12_init_354 ?_
  refine n_aload_n (pc := 357) C 0 rfl rfl dX12_init_357 ?_
  refine n_sipush (pc := 358) (j := 264) C (by decide +kernel) dX12_init_358 ?_
  refine n_newa (pc := 361) (n := 32) (t := 0) (L := 264) (atype := .int) C rfl (Or.inl ⟨rfl, rfl⟩) mA_int m_s32 (fun j => (up_z (N1 := 24) (up_z (N1 := 24) (up_z (N1 := 23) (up_z (N1 := 23) (up_z (N1 := 18) (up_z (N1 := 18) (up_z (N1 := 18) (up_z (N1 := 2) (up_z (N1 := 2) (up_z (N1 := 2) (up_z (N1 := 2) (up_z (N1 := 2) (up_z (N1 := 2) (up_z (N1 := 2) (up_z (N1 := 2) (up_z (N1 := 2) (up_z (N1 := 2) (up_z (N1 := 2) (up_z (N1 := 2) (up_z (N1 := 2) hM (by omega) (by omega)) (by omega) (by omega)) (by omega) (by omega)) (by omega) (by omega)) (by omega) (by omega)) (by omega) (by omega)) (by omega) (by omega)) (by omega) (by omega)) (by omega) (by omega)) (by omega) (by omega)) (by omega) (by omega)) (by omega) (by omega)) (by omega) (by omega)) (by omega) (by omega)) (by omega) (by omega)) (by omega) (by omega)) (by omega) (by omega)) (by omega) (by omega)) (by omega) (by omega)) (by omega) (by omega)) 32 (by omega) j) (by decide) rfl ⟨by omega, by omega⟩ (Nat.le_of_ble_eq_true rfl) (Nat.le_of_ble_eq_true rfl) dX12_init_361 ?_
  refine n_putR (pc := 363) (hol := HO 0 [52, 53, 54, 55, 59, 60, 61, 62, 64, 65, 66, 67, 68] []) C hin fk_RX12_168 mw_ft kf_RX12_51 m_s0 (by omega) m_k51 (fun _ => rfl) (fun _ => rfl) (ho_nin (by decide) (fun _ h => absurd h List.not_mem_nil)) m_r51 dX12_init_363 ?_
  refine n_aload_n (pc := 366) C 0 rfl rfl dX12_init_366 ?_
  refine n_sipush (pc := 367) (j := 264) C (by decide +kernel) dX12_init_367 ?_
  refine n_newa (pc := 370) (n := 33) (t := 0) (L := 264) (atype := .int) C rfl (Or.inl ⟨rfl, rfl⟩) mA_int m_s33 (fun j => (up_z (N1 := 24) (up_z (N1 := 24) (up_z (N1 := 23) (up_z (N1 := 23) (up_z (N1 := 18) (up_z (N1 := 18) (up_z (N1 := 18) (up_z (N1 := 2) (up_z (N1 := 2) (up_z (N1 := 2) (up_z (N1 := 2) (up_z (N1 := 2) (up_z (N1 := 2) (up_z (N1 := 2) (up_z (N1 := 2) (up_z (N1 := 2) (up_z (N1 := 2) (up_z (N1 := 2) (up_z (N1 := 2) (up_z (N1 := 2) hM (by omega) (by omega)) (by omega) (by omega)) (by omega) (by omega)) (by omega) (by omega)) (by omega) (by omega)) (by omega) (by omega)) (by omega) (by omega)) (by omega) (by omega)) (by omega) (by omega)) (by omega) (by omega)) (by omega) (by omega)) (by omega) (by omega)) (by omega) (by omega)) (by omega) (by omega)) (by omega) (by omega)) (by omega) (by omega)) (by omega) (by omega)) (by omega) (by omega)) (by omega) (by omega)) (by omega) (by omega)) 33 (by omega) j) (by decide) rfl ⟨by omega, by omega⟩ (Nat.le_of_ble_eq_true rfl) (Nat.le_of_ble_eq_true rfl) dX12_init_370 ?_
  refine n_putR (pc := 372) (hol := HO 0 [53, 54, 55, 59, 60, 61, 62, 64, 65, 66, 67, 68] []) C hin fk_RX12_171 mw_ft kf_RX12_52 m_s0 (by omega) m_k52 (fun _ => rfl) (fun _ => rfl) (ho_nin (by decide) (fun _ h => absurd h List.not_mem_nil)) m_r52 dX12_init_372 ?_
  refine n_aload_n (pc := 375) C 0 rfl rfl dX12_init_375 ?_
  refine n_bipush (pc := 376) (j := 22) C (by decide +kernel) dX12_init_376 ?_
  refine n_newa (pc := 378) (n := 34) (t := 0) (L := 22) (atype := .int) C rfl (Or.inl ⟨rfl, rfl⟩) mA_int m_s34 (fun j => (up_z (N1 := 24) (up_z (N1 := 24) (up_z (N1 := 23) (up_z (N1 := 23) (up_z (N1 := 18) (up_z (N1 := 18) (up_z (N1 := 18) (up_z (N1 := 2) (up_z (N1 := 2) (up_z (N1 := 2) (up_z (N1 := 2) (up_z (N1 := 2) (up_z (N1 := 2) (up_z (N1 := 2) (up_z (N1 := 2) (up_z (N1 := 2) (up_z (N1 := 2) (up_z (N1 := 2) (up_z (N1 := 2) (up_z (N1 := 2) hM (by omega) (by omega)) (by omega) (by omega)) (by omega) (by omega)) (by omega) (by omega)) (by omega) (by omega)) (by omega) (by omega)) (by omega) (by omega)) (by omega) (by omega)) (by omega) (by omega)) (by omega) (by omega)) (by omega) (by omega)) (by omega) (by omega)) (by omega) (by omega)) (by omega) (by omega)) (by omega) (by omega)) (by omega) (by omega)) (by omega) (by omega)) (by omega) (by omega)) (by omega) (by omega)) (by omega) (by omega)) 34 (by omega) j) (by decide) rfl ⟨by omega, by omega⟩ (Nat.le_of_ble_eq_true rfl) (Nat.le_of_ble_eq_true rfl) dX12_init_378 ?_
  refine n_putR (pc := 380) (hol := HO 0 [54, 55, 59, 60, 61, 62, 64, 65, 66, 67, 68] []) C hin fk_RX12_174 mw_ft kf_RX12_53 m_s0 (by omega) m_k53 (fun _ => rfl) (fun _ => rfl) (ho_nin (by decide) (fun _ h => absurd h List.not_mem_nil)) m_r53 dX12_init_380 ?_
  refine n_aload_n (pc := 383) C 0 rfl rfl dX12_init_383 ?_
  refine n_bipush (pc := 384) (j := 22) C (by decide +kernel) dX12_init_384 ?_
  refine n_newa (pc := 386) (n := 35) (t := 0) (L := 22) (atype := .int) C rfl (Or.inl ⟨rfl, rfl⟩) mA_int m_s35 (fun j => (up_z (N1 := 24) (up_z (N1 := 24) (up_z (N1 := 23) (up_z (N1 := 23) (up_z (N1 := 18) (up_z (N1 := 18) (up_z (N1 := 18) (up_z (N1 := 2) (up_z (N1 := 2) (up_z (N1 := 2) (up_z (N1 := 2) (up_z (N1 := 2) (up_z (N1 := 2) (up_z (N1 := 2) (up_z (N1 := 2) (up_z (N1 := 2) (up_z (N1 := 2) (up_z (N1 := 2) (up_z (N1 := 2) (up_z (N1 := 2) hM (by omega) (by omega)) (by omega) (by omega)) (by omega) (by omega)) (by omega) (by omega)) (by omega) (by omega)) (by omega) (by omega)) (by omega) (by omega)) (by omega) (by omega)) (by omega) (by omega)) (by omega) (by omega)) (by omega) (by omega)) (by omega) (by omega)) (by omega) (by omega)) (by omega) (by omega)) (by omega) (by omega)) (by omega) (by omega)) (by omega) (by omega)) (by omega) (by omega)) (by omega) (by omega)) (by omega) (by omega)) 35 (by omega) j) (by decide) rfl ⟨by omega, by omega⟩ (Nat.le_of_ble_eq_true rfl) (Nat.le_of_ble_eq_true rfl) dX12_init_386 ?_
  refine n_putR (pc := 388) (hol := HO 0 [55, 59, 60, 61, 62, 64, 65, 66, 67, 68] []) C hin fk_RX12_177 mw_ft kf_RX12_54 m_s0 (by omega) m_k54 (fun _ => rfl) (fun _ => rfl) (ho_nin (by decide) (fun _ h => absurd h List.not_mem_nil)) m_r54 dX12_init_388 ?_
  refine n_aload_n (pc := 391) C 0 rfl rfl dX12_init_391 ?_
  refine n_sipush (pc := 392) (j := 2640) C (by decide +kernel) dX12_init_392 ?_
  refine n_newa (pc := 395) (n := 36) (t := 0) (L := 2640) (atype := .int) C rfl (Or.inl ⟨rfl, rfl⟩) mA_int m_s36 (fun j => (up_z (N1 := 24) (up_z (N1 := 24) (up_z (N1 := 23) (up_z (N1 := 23) (up_z (N1 := 18) (up_z (N1 := 18) (up_z (N1 := 18) (up_z (N1 := 2) (up_z (N1 := 2) (up_z (N1 := 2) (up_z (N1 := 2) (up_z (N1 := 2) (up_z (N1 := 2) (up_z (N1 := 2) (up_z (N1 := 2) (up_z (N1 := 2) (up_z (N1 := 2) (up_z (N1 := 2) (up_z (N1 := 2) (up_z (N1 := 2) hM (by omega) (by omega)) (by omega) (by omega)) (by omega) (by omega)) (by omega) (by omega)) (by omega) (by omega)) (by omega) (by omega)) (by omega) (by omega)) (by omega) (by omega)) (by omega) (by omega)) (by omega) (by omega)) (by omega) (by omega)) (by omega) (by omega)) (by omega) (by omega)) (by omega) (by omega)) (by omega) (by omega)) (by omega) (by omega)) (by omega) (by omega)) (by omega) (by omega)) (by omega) (by omega)) (by omega) (by omega)) 36 (by omega) j) (by decide) rfl ⟨by omega, by omega⟩ (Nat.le_of_ble_eq_true rfl) (Nat.le_of_ble_eq_true rfl) dX12_init_395 ?_
  refine n_putR (pc := 397) (hol := HO 0 [59, 60, 61, 62, 64, 65, 66, 67, 68] []) C hin fk_RX12_180 mw_ft kf_RX12_55 m_s0 (by omega) m_k55 (fun _ => rfl) (fun _ => rfl) (ho_nin (by decide) (fun _ h => absurd h List.not_mem_nil)) m_r55 dX12_init_397 ?_
  refine n_aload_n (pc := 400) C 0 rfl rfl dX12_init_400 ?_
  refine n_iconst (pc := 401) C dX12_init_401 ?_
  refine n_putI (pc := 402) C fk_RX12_183 mw_ft m_w56 m_s0 (by omega) m_k56 dX12_init_402 ?_
  refine n_aload_n (pc := 405) C 0 rfl rfl dX12_init_405 ?_
  refine n_iconst (pc := 406) C dX12_init_406 ?_
  refine n_putI (pc := 407) C fk_RX12_186 mw_ft m_w57 m_s0 (by omega) m_k57 dX12_init_407 ?_
  refine n_aload_n (pc := 410) C 0 rfl rfl dX12_init_410 ?_
  refine n_lconst (pc := 411) (j := 1) C rfl dX12_init_411 ?_
  refine n_putL (pc := 412) C fk_RX12_189 mw_ft m_w58 m_s0 (by omega) m_k58 dX12_init_412 ?_
  refine n_aload_n (pc := 415) C 0 rfl rfl dX12_init_415 ?_
  refine n_sipush (pc := 416) (j := 500) C (by decide +kernel) dX12_init_416 ?_
  refine n_newa (pc := 419) (n := 37) (t := 1) (L := 500) (atype := .long) C rfl (Or.inr (Or.inl ⟨rfl, rfl⟩)) mA_long m_s37 (fun j => (up_z (N1 := 37) (up_z (N1 := 37) (up_z (N1 := 37) (up_z (N1 := 24) (up_z (N1 := 24) (up_z (N1 := 23) (up_z (N1 := 23) (up_z (N1 := 18) (up_z (N1 := 18) (up_z (N1 := 18) (up_z (N1 := 2) (up_z (N1 := 2) (up_z (N1 := 2) (up_z (N1 := 2) (up_z (N1 := 2) (up_z (N1 := 2) (up_z (N1 := 2) (up_z (N1 := 2) (up_z (N1 := 2) (up_z (N1 := 2) (up_z (N1 := 2) (up_z (N1 := 2) (up_z (N1 := 2) hM (by omega) (by omega)) (by omega) (by omega)) (by omega) (by omega)) (by omega) (by omega)) (by omega) (by omega)) (by omega) (by omega)) (by omega) (by omega)) (by omega) (by omega)) (by omega) (by omega)) (by omega) (by omega)) (by omega) (by omega)) (by omega) (by omega)) (by omega) (by omega)) (by omega) (by omega)) (by omega) (by omega)) (by omega) (by omega)) (by omega) (by omega)) (by omega) (by omega)) (by omega) (by omega)) (by omega) (by omega)) (by omega) (by omega)) (by omega) (by omega)) (by omega) (by omega)) 37 (by omega) j) (by decide) rfl ⟨by omega, by omega⟩ (Nat.le_of_ble_eq_true rfl) (Nat.le_of_ble_eq_true rfl) dX12_init_419 ?_
  refine n_putR (pc := 421) (hol := HO 0 [60, 61, 62, 64, 65, 66, 67, 68] []) C hin fk_RX12_192 mw_ft kf_RX12_59 m_s0 (by omega) m_k59 (fun _ => rfl) (fun _ => rfl) (ho_nin (by decide) (fun _ h => absurd h List.not_mem_nil)) m_r59 dX12_init_421 ?_
  refine n_aload_n (pc := 424) C 0 rfl rfl dX12_init_424 ?_
  refine n_bipush (pc := 425) (j := 12) C (by decide +kernel) dX12_init_425 ?_
  refine n_newa (pc := 427) (n := 38) (t := 0) (L := 12) (atype := .int) C rfl (Or.inl ⟨rfl, rfl⟩) mA_int m_s38 (fun j => (up_z (N1 := 37) (up_z (N1 := 37) (up_z (N1 := 37) (up_z (N1 := 24) (up_z (N1 := 24) (up_z (N1 := 23) (up_z (N1 := 23) (up_z (N1 := 18) (up_z (N1 := 18) (up_z (N1 := 18) (up_z (N1 := 2) (up_z (N1 := 2) (up_z (N1 := 2) (up_z (N1 := 2) (up_z (N1 := 2) (up_z (N1 := 2) (up_z (N1 := 2) (up_z (N1 := 2) (up_z (N1 := 2) (up_z (N1 := 2) (up_z (N1 := 2) (up_z (N1 := 2) (up_z (N1 := 2) hM (by omega) (by omega)) (by omega) (by omega)) (by omega) (by omega)) (by omega) (by omega)) (by omega) (by omega)) (by omega) (by omega)) (by omega) (by omega)) (by omega) (by omega)) (by omega) (by omega)) (by omega) (by omega)) (by omega) (by omega)) (by omega) (by omega)) (by omega) (by omega)) (by omega) (by omega)) (by omega) (by omega)) (by omega) (by omega)) (by omega) (by omega)) (by omega) (by omega)) (by omega) (by omega)) (by omega) (by omega)) (by omega) (by omega)) (by omega) (by omega)) (by omega) (by omega)) 38 (by omega) j) (by decide) rfl ⟨by omega, by omega⟩ (Nat.le_of_ble_eq_true rfl) (Nat.le_of_ble_eq_true rfl) dX12_init_427 ?_
  refine n_putR (pc := 429) (hol := HO 0 [61, 62, 64, 65, 66, 67, 68] []) C hin fk_RX12_195 mw_ft kf_RX12_60 m_s0 (by omega) m_k60 (fun _ => rfl) (fun _ => rfl) (ho_nin (by decide) (fun _ h => absurd h List.not_mem_nil)) m_r60 dX12_init_429 ?_
  refine n_aload_n (pc := 432) C 0 rfl rfl dX12_init_432 ?_
  refine n_bipush (pc := 433) (j := 12) C (by decide +kernel) dX12_init_433 ?_
  refine n_newa (pc := 435) (n := 39) (t := 0) (L := 12) (atype := .int) C rfl (Or.inl ⟨rfl, rfl⟩) mA_int m_s39 (fun j => (up_z (N1 := 37) (up_z (N1 := 37) (up_z (N1 := 37) (up_z (N1 := 24) (up_z (N1 := 24) (up_z (N1 := 23) (up_z (N1 := 23) (up_z (N1 := 18) (up_z (N1 := 18) (up_z (N1 := 18) (up_z (N1 := 2) (up_z (N1 := 2) (up_z (N1 := 2) (up_z (N1 := 2) (up_z (N1 := 2) (up_z (N1 := 2) (up_z (N1 := 2) (up_z (N1 := 2) (up_z (N1 := 2) (up_z (N1 := 2) (up_z (N1 := 2) (up_z (N1 := 2) (up_z (N1 := 2) hM (by omega) (by omega)) (by omega) (by omega)) (by omega) (by omega)) (by omega) (by omega)) (by omega) (by omega)) (by omega) (by omega)) (by omega) (by omega)) (by omega) (by omega)) (by omega) (by omega)) (by omega) (by omega)) (by omega) (by omega)) (by omega) (by omega)) (by omega) (by omega)) (by omega) (by omega)) (by omega) (by omega)) (by omega) (by omega)) (by omega) (by omega)) (by omega) (by omega)) (by omega) (by omega)) (by omega) (by omega)) (by omega) (by omega)) (by omega) (by omega)) (by omega) (by omega)) 39 (by omega) j) (by decide) rfl ⟨by omega, by omega⟩ (Nat.le_of_ble_eq_true rfl) (Nat.le_of_ble_eq_true rfl) dX12_init_435 ?_
  refine n_putR (pc := 437) (hol := HO 0 [62, 64, 65, 66, 67, 68] []) C hin fk_RX12_198 mw_ft kf_RX12_61 m_s0 (by omega) m_k61 (fun _ => rfl) (fun _ => rfl) (ho_nin (by decide) (fun _ h => absurd h List.not_mem_nil)) m_r61 dX12_init_437 ?_
  refine n_aload_n (pc := 440) C 0 rfl rfl dX12_init_440 ?_
  refine n_sipush (pc := 441) (j := 1664) C (by decide +kernel) dX12_init_441 ?_
  refine n_newa (pc := 444) (n := 40) (t := 0) (L := 1664) (atype := .int) C rfl (Or.inl ⟨rfl, rfl⟩) mA_int m_s40 (fun j => (up_z (N1 := 37) (up_z (N1 := 37) (up_z (N1 := 37) (up_z (N1 := 24) (up_z (N1 := 24) (up_z (N1 := 23) (up_z (N1 := 23) (up_z (N1 := 18) (up_z (N1 := 18) (up_z (N1 := 18) (up_z (N1 := 2) (up_z (N1 := 2) (up_z (N1 := 2) (up_z (N1 := 2) (up_z (N1 := 2) (up_z (N1 := 2) (up_z (N1 := 2) (up_z (N1 := 2) (up_z (N1 := 2) (up_z (N1 := 2) (up_z (N1 := 2) (up_z (N1 := 2) (up_z (N1 := 2) hM (by omega) (by omega)) (by omega) (by omega)) (by omega) (by omega)) (by omega) (by omega)) (by omega) (by omega)) (by omega) (by omega)) (by omega) (by omega)) (by omega) (by omega)) (by omega) (by omega)) (by omega) (by omega)) (by omega) (by omega)) (by omega) (by omega)) (by omega) (by omega)) (by omega) (by omega)) (by omega) (by omega)) (by omega) (by omega)) (by omega) (by omega)) (by omega) (by omega)) (by omega) (by omega)) (by omega) (by omega)) (by omega) (by omega)) (by omega) (by omega)) (by omega) (by omega)) 40 (by omega) j) (by decide) rfl ⟨by omega, by omega⟩ (Nat.le_of_ble_eq_true rfl) (Nat.le_of_ble_eq_true rfl) dX12_init_444 ?_
  refine n_putR (pc := 446) (hol := HO 0 [64, 65, 66, 67, 68] []) C hin fk_RX12_201 mw_ft kf_RX12_62 m_s0 (by omega) m_k62 (fun _ => rfl) (fun _ => rfl) (ho_nin (by decide) (fun _ h => absurd h List.not_mem_nil)) m_r62 dX12_init_446 ?_
  refine n_aload_n (pc := 449) C 0 rfl rfl dX12_init_449 ?_
  refine n_iconst (pc := 450) C dX12_init_450 ?_
  refine n_putI (pc := 451) C fk_RX12_204 mw_ft m_w63 m_s0 (by omega) m_k63 dX12_init_451 ?_
  refine n_aload_n (pc := 454) C 0 rfl rfl dX12_init_454 ?_
  refine n_bipush (pc := 455) (j := 16) C (by decide +kernel) dX12_init_455 ?_
  refine n_newa (pc := 457) (n := 41) (t := 0) (L := 16) (atype := .int) C rfl (Or.inl ⟨rfl, rfl⟩) mA_int m_s41 (fun j => (up_z (N1 := 41) (up_z (N1 := 37) (up_z (N1 := 37) (up_z (N1 := 37) (up_z (N1 := 24) (up_z (N1 := 24) (up_z (N1 := 23) (up_z (N1 := 23) (up_z (N1 := 18) (up_z (N1 := 18) (up_z (N1 := 18) (up_z (N1 := 2) (up_z (N1 := 2) (up_z (N1 := 2) (up_z (N1 := 2) (up_z (N1 := 2) (up_z (N1 := 2) (up_z (N1 := 2) (up_z (N1 := 2) (up_z (N1 := 2) (up_z (N1 := 2) (up_z (N1 := 2) (up_z (N1 := 2) (up_z (N1 := 2) hM (by omega) (by omega)) (by omega) (by omega)) (by omega) (by omega)) (by omega) (by omega)) (by omega) (by omega)) (by omega) (by omega)) (by omega) (by omega)) (by omega) (by omega)) (by omega) (by omega)) (by omega) (by omega)) (by omega) (by omega)) (by omega) (by omega)) (by omega) (by omega)) (by omega) (by omega)) (by omega) (by omega)) (by omega) (by omega)) (by omega) (by omega)) (by omega) (by omega)) (by omega) (by omega)) (by omega) (by omega)) (by omega) (by omega)) (by omega) (by omega)) (by omega) (by omega)) (by omega) (by omega)) 41 (by omega) j) (by decide) rfl ⟨by omega, by omega⟩ (Nat.le_of_ble_eq_true rfl) (Nat.le_of_ble_eq_true rfl) dX12_init_457 ?_
  refine n_putR (pc := 459) (hol := HO 0 [65, 66, 67, 68] []) C hin fk_RX12_207 mw_ft kf_RX12_64 m_s0 (by omega) m_k64 (fun _ => rfl) (fun _ => rfl) (ho_nin (by decide) (fun _ h => absurd h List.not_mem_nil)) m_r64 dX12_init_459 ?_
  refine n_aload_n (pc := 462) C 0 rfl rfl dX12_init_462 ?_
  refine n_bipush (pc := 463) (j := 16) C (by decide +kernel) dX12_init_463 ?_
  refine n_newa (pc := 465) (n := 42) (t := 0) (L := 16) (atype := .int) C rfl (Or.inl ⟨rfl, rfl⟩) mA_int m_s42 (fun j => (up_z (N1 := 41) (up_z (N1 := 37) (up_z (N1 := 37) (up_z (N1 := 37) (up_z (N1 := 24) (up_z (N1 := 24) (up_z (N1 := 23) (up_z (N1 := 23) (up_z (N1 := 18) (up_z (N1 := 18) (up_z (N1 := 18) (up_z (N1 := 2) (up_z (N1 := 2) (up_z (N1 := 2) (up_z (N1 := 2) (up_z (N1 := 2) (up_z (N1 := 2) (up_z (N1 := 2) (up_z (N1 := 2) (up_z (N1 := 2) (up_z (N1 := 2) (up_z (N1 := 2) (up_z (N1 := 2) (up_z (N1 := 2) hM (by omega) (by omega)) (by omega) (by omega)) (by omega) (by omega)) (by omega) (by omega)) (by omega) (by omega)) (by omega) (by omega)) (by omega) (by omega)) (by omega) (by omega)) (by omega) (by omega)) (by omega) (by omega)) (by omega) (by omega)) (by omega) (by omega)) (by omega) (by omega)) (by omega) (by omega)) (by omega) (by omega)) (by omega) (by omega)) (by omega) (by omega)) (by omega) (by omega)) (by omega) (by omega)) (by omega) (by omega)) (by omega) (by omega)) (by omega) (by omega)) (by omega) (by omega)) (by omega) (by omega)) 42 (by omega) j) (by decide) rfl ⟨by omega, by omega⟩ (Nat.le_of_ble_eq_true rfl) (Nat.le_of_ble_eq_true rfl) dX12_init_465 ?_
  refine n_putR (pc := 467) (hol := HO 0 [66, 67, 68] []) C hin fk_RX12_210 mw_ft kf_RX12_65 m_s0 (by omega) m_k65 (fun _ => rfl) (fun _ => rfl) (ho_nin (by decide) (fun _ h => absurd h List.not_mem_nil)) m_r65 dX12_init_467 ?_
  refine n_aload_n (pc := 470) C 0 rfl rfl dX12_init_470 ?_
  refine n_bipush (pc := 471) (j := 16) C (by decide +kernel) dX12_init_471 ?_
  refine n_newa (pc := 473) (n := 43) (t := 0) (L := 16) (atype := .int) C rfl (Or.inl ⟨rfl, rfl⟩) mA_int m_s43 (fun j => (up_z (N1 := 41) (up_z (N1 := 37) (up_z (N1 := 37) (up_z (N1 := 37) (up_z (N1 := 24) (up_z (N1 := 24) (up_z (N1 := 23) (up_z (N1 := 23) (up_z (N1 := 18) (up_z (N1 := 18) (up_z (N1 := 18) (up_z (N1 := 2) (up_z (N1 := 2) (up_z (N1 := 2) (up_z (N1 := 2) (up_z (N1 := 2) (up_z (N1 := 2) (up_z (N1 := 2) (up_z (N1 := 2) (up_z (N1 := 2) (up_z (N1 := 2) (up_z (N1 := 2) (up_z (N1 := 2) (up_z (N1 := 2) hM (by omega) (by omega)) (by omega) (by omega)) (by omega) (by omega)) (by omega) (by omega)) (by omega) (by omega)) (by omega) (by omega)) (by omega) (by omega)) (by omega) (by omega)) (by omega) (by omega)) (by omega) (by omega)) (by omega) (by omega)) (by omega) (by omega)) (by omega) (by omega)) (by omega) (by omega)) (by omega) (by omega)) (by omega) (by omega)) (by omega) (by omega)) (by omega) (by omega)) (by omega) (by omega)) (by omega) (by omega)) (by omega) (by omega)) (by omega) (by omega)) (by omega) (by omega)) (by omega) (by omega)) 43 (by omega) j) (by decide) rfl ⟨by omega, by omega⟩ (Nat.le_of_ble_eq_true rfl) (Nat.le_of_ble_eq_true rfl) dX12_init_473 ?_
  refine n_putR (pc := 475) (hol := HO 0 [67, 68] []) C hin fk_RX12_213 mw_ft kf_RX12_66 m_s0 (by omega) m_k66 (fun _ => rfl) (fun _ => rfl) (ho_nin (by decide) (fun _ h => absurd h List.not_mem_nil)) m_r66 dX12_init_475 ?_
  refine n_aload_n (pc := 478) C 0 rfl rfl dX12_init_478 ?_
  refine n_sipush (pc := 479) (j := 3720) C (by decide +kernel) dX12_init_479 ?_
  refine n_newa (pc := 482) (n := 44) (t := 0) (L := 3720) (atype := .int) C rfl (Or.inl ⟨rfl, rfl⟩) mA_int m_s44 (fun j => (up_z (N1 := 41) (up_z (N1 := 37) (up_z (N1 := 37) (up_z (N1 := 37) (up_z (N1 := 24) (up_z (N1 := 24) (up_z (N1 := 23) (up_z (N1 := 23) (up_z (N1 := 18) (up_z (N1 := 18) (up_z (N1 := 18) (up_z (N1 := 2) (up_z (N1 := 2) (up_z (N1 := 2) (up_z (N1 := 2) (up_z (N1 := 2) (up_z (N1 := 2) (up_z (N1 := 2) (up_z (N1 := 2) (up_z (N1 := 2) (up_z (N1 := 2) (up_z (N1 := 2) (up_z (N1 := 2) (up_z (N1 := 2) hM (by omega) (by omega)) (by omega) (by omega)) (by omega) (by omega)) (by omega) (by omega)) (by omega) (by omega)) (by omega) (by omega)) (by omega) (by omega)) (by omega) (by omega)) (by omega) (by omega)) (by omega) (by omega)) (by omega) (by omega)) (by omega) (by omega)) (by omega) (by omega)) (by omega) (by omega)) (by omega) (by omega)) (by omega) (by omega)) (by omega) (by omega)) (by omega) (by omega)) (by omega) (by omega)) (by omega) (by omega)) (by omega) (by omega)) (by omega) (by omega)) (by omega) (by omega)) (by omega) (by omega)) 44 (by omega) j) (by decide) rfl ⟨by omega, by omega⟩ (Nat.le_of_ble_eq_true rfl) (Nat.le_of_ble_eq_true rfl) dX12_init_482 ?_
  refine n_putR (pc := 484) (hol := HO 0 [68] []) C hin fk_RX12_216 mw_ft kf_RX12_67 m_s0 (by omega) m_k67 (fun _ => rfl) (fun _ => rfl) (ho_nin (by decide) (fun _ h => absurd h List.not_mem_nil)) m_r67 dX12_init_484 ?_
  refine n_aload_n (pc := 487) C 0 rfl rfl dX12_init_487 ?_
  refine n_bipush (pc := 488) (j := 120) C (by decide +kernel) dX12_init_488 ?_
  refine n_newa (pc := 490) (n := 45) (t := 0) (L := 120) (atype := .int) C rfl (Or.inl ⟨rfl, rfl⟩) mA_int m_s45 (fun j => (up_z (N1 := 41) (up_z (N1 := 37) (up_z (N1 := 37) (up_z (N1 := 37) (up_z (N1 := 24) (up_z (N1 := 24) (up_z (N1 := 23) (up_z (N1 := 23) (up_z (N1 := 18) (up_z (N1 := 18) (up_z (N1 := 18) (up_z (N1 := 2) (up_z (N1 := 2) (up_z (N1 := 2) (up_z (N1 := 2) (up_z (N1 := 2) (up_z (N1 := 2) (up_z (N1 := 2) (up_z (N1 := 2) (up_z (N1 := 2) (up_z (N1 := 2) (up_z (N1 := 2) (up_z (N1 := 2) (up_z (N1 := 2) hM (by omega) (by omega)) (by omega) (by omega)) (by omega) (by omega)) (by omega) (by omega)) (by omega) (by omega)) (by omega) (by omega)) (by omega) (by omega)) (by omega) (by omega)) (by omega) (by omega)) (by omega) (by omega)) (by omega) (by omega)) (by omega) (by omega)) (by omega) (by omega)) (by omega) (by omega)) (by omega) (by omega)) (by omega) (by omega)) (by omega) (by omega)) (by omega) (by omega)) (by omega) (by omega)) (by omega) (by omega)) (by omega) (by omega)) (by omega) (by omega)) (by omega) (by omega)) (by omega) (by omega)) 45 (by omega) j) (by decide) rfl ⟨by omega, by omega⟩ (Nat.le_of_ble_eq_true rfl) (Nat.le_of_ble_eq_true rfl) dX12_init_490 ?_
  refine n_putR (pc := 492) (hol := HO 0 [] []) C hin fk_RX12_219 mw_ft kf_RX12_68 m_s0 (by omega) m_k68 (fun _ => rfl) (fun _ => rfl) (ho_nin (by decide) (fun _ h => absurd h List.not_mem_nil)) m_r68 dX12_init_492 ?_
  refine n_aload_n (pc := 495) C 0 rfl rfl dX12_init_495 ?_
  refine n_iconst (pc := 496) C dX12_init_496 ?_
  refine n_putI (pc := 497) C fk_RX12_222 mw_ft m_w69 m_s0 (by omega) m_k69 dX12_init_497 ?_
  refine n_iconst (pc := 500) C dX12_init_500 ?_
  refine n_istore_n (pc := 501) (lv' := [(1, vI 0), (0, vR b 0)]) C rfl dX12_init_501 (by decide) rfl ?_
  refine n_iload_n (pc := 502) C 0 rfl rfl dX12_init_502 ?_
  refine n_bipush (pc := 503) (j := 6) C (by decide +kernel) dX12_init_503 ?_
  refine n_icmp_ge (pc := 505) (tgt := 521) (α := Unit) (f := none) (g := some ()) (r := ()) C (if_neg (by decide +kernel)) dX12_init_505 (by decide) (fun _ z => nomatch z) (fun _ _ => ?_)
  refine n_aload_n (pc := 508) C 1 rfl rfl dX12_init_508 ?_
  refine n_getR (pc := 509) (r := 12) C fk_RX12_84 m_s0 (by omega) m_k24 (by decide +kernel) dX12_init_509 ?_
  refine n_iload_n (pc := 512) C 0 rfl rfl dX12_init_512 ?_
  refine n_iconst (pc := 513) C dX12_init_513 ?_
  refine n_iast (pc := 514) (iN := 0) C m_s12 (by omega) (by decide) ⟨by decide, by decide⟩ rfl dX12_init_514 ?_
  refine n_iinc (pc := 515) (lv' := [(1, vI 1), (0, vR b 0)]) C 0 rfl dX12_init_515 (by decide) rfl ?_
  refine n_goto (pc := 518) (tgt := 502) C dX12_init_518 (by decide) ?_
  refine n_iload_n (pc := 502) C 0 rfl rfl dX12_init_502 ?_
  refine n_bipush (pc := 503) (j := 6) C (by decide +kernel) dX12_init_503 ?_
  refine n_icmp_ge (pc := 505) (tgt := 521) (α := Unit) (f := none) (g := some ()) (r := ()) C (if_neg (by decide +kernel)) dX12_init_505 (by decide) (fun _ z => nomatch z) (fun _ _ => ?_)
  refine n_aload_n (pc := 508) C 1 rfl rfl dX12_init_508 ?_
  refine n_getR (pc := 509) (r := 12) C fk_RX12_84 m_s0 (by omega) m_k24 (by decide +kernel) dX12_init_509 ?_
  refine n_iload_n (pc := 512) C 0 rfl rfl dX12_init_512 ?_
  refine n_iconst (pc := 513) C dX12_init_513 ?_
  refine n_iast (pc := 514) (iN := 1) C m_s12 (by omega) (by decide) ⟨by decide, by decide⟩ rfl dX12_init_514 ?_
  refine n_iinc (pc := 515) (lv' := [(1, vI 2), (0, vR b 0)]) C 0 rfl dX12_init_515 (by decide) rfl ?_
  refine n_goto (pc := 518) (tgt := 502) C dX12_init_518 (by decide) ?_
  refine n_iload_n (pc := 502) C 0 rfl rfl dX12_init_502 ?_
  refine n_bipush (pc := 503) (j := 6) C (by decide +kernel) dX12_init_503 ?_
  refine n_icmp_ge (pc := 505) (tgt := 521) (α := Unit) (f := none) (g := some ()) (r := ()) C (if_neg (by decide +kernel)) dX12_init_505 (by decide) (fun _ z => nomatch z) (fun _ _ => ?_)
  refine n_aload_n (pc := 508) C 1 rfl rfl dX12_init_508 ?_
  refine n_getR (pc := 509) (r := 12) C fk_RX12_84 m_s0 (by omega) m_k24 (by decide +kernel) dX12_init_509 ?_
  refine n_iload_n (pc := 512) C 0 rfl rfl dX12_init_512 ?_
  refine n_iconst (pc := 513) C dX12_init_513 ?_
  refine n_iast (pc := 514) (iN := 2) C m_s12 (by omega) (by decide) ⟨by decide, by decide⟩ rfl dX12_init_514 ?_
  refine n_iinc (pc := 515) (lv' := [(1, vI 3), (0, vR b 0)]) C 0 rfl dX12_init_515 (by decide) rfl ?_
  refine n_goto (pc := 518) (tgt := 502) C dX12_init_518 (by decide) ?_
  refine n_iload_n (pc := 502) C 0 rfl rfl dX12_init_502 ?_
  refine n_bipush (pc := 503) (j := 6) C (by decide +kernel) dX12_init_503 ?_
  refine n_icmp_ge (pc := 505) (tgt := 521) (α := Unit) (f := none) (g := some ()) (r := ()) C (if_neg (by decide +kernel)) dX12_init_505 (by decide) (fun _ z => nomatch z) (fun _ _ => ?_)
  refine n_aload_n (pc := 508) C 1 rfl rfl dX12_init_508 ?_
  refine n_getR (pc := 509) (r := 12) C fk_RX12_84 m_s0 (by omega) m_k24 (by decide +kernel) dX12_init_509 ?_
  refine n_iload_n (pc := 512) C 0 rfl rfl dX12_init_512 ?_
  refine n_iconst (pc := 513) C dX12_init_513 ?_
  refine n_iast (pc := 514) (iN := 3) C m_s12 (by omega) (by decide) ⟨by decide, by decide⟩ rfl dX12_init_514 ?_
  refine n_iinc (pc := 515) (lv' := [(1, vI 4), (0, vR b 0)]) C 0 rfl dX12_init_515 (by decide) rfl ?_
  refine n_goto (pc := 518) (tgt := 502) C dX12_init_518 (by decide) ?_
  refine n_iload_n (pc := 502) C 0 rfl rfl dX12_init_502 ?_
  refine n_bipush (pc := 503) (j := 6) C (by decide +kernel) dX12_init_503 ?_
  refine n_icmp_ge (pc := 505) (tgt := 521) (α := Unit) (f := none) (g := some ()) (r := ()) C (if_neg (by decide +kernel)) dX12_init_505 (by decide) (fun _ z => nomatch z) (fun _ _ => ?_)
  refine n_aload_n (pc := 508) C 1 rfl rfl dX12_init_508 ?_
  refine n_getR (pc := 509) (r := 12) C fk_RX12_84 m_s0 (by omega) m_k24 (by decide +kernel) dX12_init_509 ?_
  refine n_iload_n (pc := 512) C 0 rfl rfl dX12_init_512 ?_
  refine n_iconst (pc := 513) C dX12_init_513 ?_
  refine n_iast (pc := 514) (iN := 4) C m_s12 (by omega) (by decide) ⟨by decide, by decide⟩ rfl dX12_init_514 ?_
  refine n_iinc (pc := 515) (lv' := [(1, vI 5), (0, vR b 0)]) C 0 rfl dX12_init_515 (by decide) rfl ?_
  refine n_goto (pc := 518) (tgt := 502) C dX12_init_518 (by decide) ?_
  refine n_iload_n (pc := 502) C 0 rfl rfl dX12_init_502 ?_
  refine n_bipush (pc := 503) (j := 6) C (by decide +kernel) dX12_init_503 ?_
  refine n_icmp_ge (pc := 505) (tgt := 521) (α := Unit) (f := none) (g := some ()) (r := ()) C (if_neg (by decide +kernel)) dX12_init_505 (by decide) (fun _ z => nomatch z) (fun _ _ => ?_)
  refine n_aload_n (pc := 508) C 1 rfl rfl dX12_init_508 ?_
  refine n_getR (pc := 509) (r := 12) C fk_RX12_84 m_s0 (by omega) m_k24 (by decide +kernel) dX12_init_509 ?_
  refine n_iload_n (pc := 512) C 0 rfl rfl dX12_init_512 ?_
  refine n_iconst (pc := 513) C dX12_init_513 ?_
  refine n_iast (pc := 514) (iN := 5) C m_s12 (by omega) (by decide) ⟨by decide, by decide⟩ rfl dX12_init_514 ?_
  refine n_iinc (pc := 515) (lv' := [(1, vI 6), (0, vR b 0)]) C 0 rfl dX12_init_515 (by decide) rfl ?_
  refine n_goto (pc := 518) (tgt := 502) C dX12_init_518 (by decide) ?_
  refine n_iload_n (pc := 502) C 0 rfl rfl dX12_init_502 ?_
  refine n_bipush (pc := 503) (j := 6) C (by decide +kernel) dX12_init_503 ?_
  refine n_icmp_ge (pc := 505) (tgt := 521) (α := Unit) (f := some ()) (g := none) (r := ()) C (if_pos (by decide +kernel)) dX12_init_505 (by decide) (fun _ _ => ?_) (fun _ z => nomatch z)
  exact n_vret (pc := 521) C hr dX12_init_521
