theorem okC0 : mv_cok 0 := mv_cok_of (C := RX0) (T := TX0) (N := 16) (ty := tyX0) (hs := [225, 227, 229, 231, 233, 235, 237, 239, 241, 243, 245, 247, 249, 251, 253, 255]) rfl (by decide +kernel) tyX0_ok nmX0
theorem okC1 : mv_cok 1 := mv_cok_of (C := RX1) (T := TX1) (N := 4) (ty := tyX1) (hs := [194, 196, 198, 200]) rfl (by decide +kernel) tyX1_ok nmX1
theorem okC2 : mv_cok 2 := mv_cok_of (C := RX2) (T := TX2) (N := 13) (ty := tyX2) (hs := [156, 158, 160, 162, 164, 166, 168, 170, 172, 174, 176, 178, 180]) rfl (by decide +kernel) tyX2_ok nmX2
theorem okC3 : mv_cok 3 := mv_cok_of (C := RX4) (T := TX4) (N := 5) (ty := tyX4) (hs := [353, 355, 357, 359, 361]) rfl (by decide +kernel) tyX4_ok nmX4
theorem okC4 : mv_cok 4 := mv_cok_of (C := RX5) (T := TX5) (N := 17) (ty := tyX5) (hs := [307, 309, 311, 313, 315, 317, 319, 321, 323, 325, 327, 329, 331, 333, 335, 337, 339]) rfl (by decide +kernel) tyX5_ok nmX5
theorem okC5 : mv_cok 5 := mv_cok_of (C := RX7) (T := TX7) (N := 6) (ty := tyX7) (hs := [276, 278, 280, 282, 284, 286]) rfl (by decide +kernel) tyX7_ok nmX7
theorem okC6 : mv_cok 6 := mv_cok_of (C := RX8) (T := TX8) (N := 9) (ty := tyX8) (hs := [379, 381, 383, 385, 387, 389, 391, 393, 395]) rfl (by decide +kernel) tyX8_ok nmX8
theorem okC7 : mv_cok 7 := mv_cok_of (C := RX10) (T := TX10) (N := 6) (ty := tyX10) (hs := [408, 410, 412, 414, 416, 418]) rfl (by decide +kernel) tyX10_ok nmX10
theorem okC8 : mv_cok 8 := mv_cok_of (C := RX11) (T := TX11) (N := 66) (ty := tyX11) (hs := [1227, 1229, 1231, 1233, 1235, 1237, 1239, 1241, 1243, 1245, 1247, 1249, 1251, 1253, 1255, 1257, 1259, 1261, 1263, 1265, 1267, 1269, 1271, 1273, 1275, 1277, 1279, 1281, 1283, 1285, 1287, 1289, 1291, 1293, 1295, 1297, 1299, 1301, 1303, 1305, 1307, 1309, 1311, 1313, 1315, 1317, 1319, 1321, 1323, 1325, 1327, 1329, 1331, 1333, 1335, 1337, 1339, 1341, 1343, 1345, 1347, 1349, 1351, 1353, 1355, 1357]) rfl (by decide +kernel) tyX11_ok nmX11
theorem okC : ∀ ci < 9, mv_cok ci := fun ci h => match ci, h with
  | 0, _ => okC0
  | 1, _ => okC1
  | 2, _ => okC2
  | 3, _ => okC3
  | 4, _ => okC4
  | 5, _ => okC5
  | 6, _ => okC6
  | 7, _ => okC7
  | 8, _ => okC8
  | n + 9, h => absurd h (by omega)
theorem okLX : mv_lok layX := mv_lok_of okC (by decide +kernel)
theorem okLY : mv_lok layY := mv_lok_of okC (by decide +kernel)
