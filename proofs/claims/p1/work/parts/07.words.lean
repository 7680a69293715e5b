/-! The fields' words by their places. -/
theorem fw_0 : ∀ w ∈ u_ws RX0 TX0 3, w ∈ lw_good := in_places [267, 269, 271] (by decide +kernel) (by decide +kernel)
theorem fw_1 : ∀ w ∈ u_ws RX1 TX1 17, w ∈ lw_good := in_places [142, 144, 146, 148, 150, 152, 154, 156, 158, 160, 162, 164, 166, 168, 170, 172, 174] (by decide +kernel) (by decide +kernel)
theorem fw_2 : ∀ w ∈ u_ws RX2 TX2 7, w ∈ lw_good := in_places [39, 41, 43, 45, 47, 49, 51] (by decide +kernel) (by decide +kernel)
theorem fw_3 : ∀ w ∈ u_ws RX3 TX3 7, w ∈ lw_good := in_places [88, 90, 92, 94, 96, 98, 100] (by decide +kernel) (by decide +kernel)
theorem fw_4 : ∀ w ∈ u_ws RX4 TX4 2, w ∈ lw_good := in_places [204, 206] (by decide +kernel) (by decide +kernel)
theorem fw_5 : ∀ w ∈ u_ws RX5 TX5 2, w ∈ lw_good := in_places [65, 67] (by decide +kernel) (by decide +kernel)
theorem fw_6 : ∀ w ∈ u_ws RX6 TX6 7, w ∈ lw_good := in_places [294, 296, 298, 300, 302, 304, 306] (by decide +kernel) (by decide +kernel)
theorem fw_7 : ∀ w ∈ u_ws RX7 TX7 9, w ∈ lw_good := in_places [221, 223, 225, 227, 229, 231, 233, 235, 237] (by decide +kernel) (by decide +kernel)
theorem fw_8 : ∀ w ∈ u_ws RX8 TX8 4, w ∈ lw_good := in_places [246, 248, 250, 252] (by decide +kernel) (by decide +kernel)
theorem fw_9 : ∀ w ∈ u_ws RX9 TX9 16, w ∈ lw_good := in_places [327, 329, 331, 333, 335, 337, 339, 341, 343, 345, 347, 349, 351, 353, 355, 357] (by decide +kernel) (by decide +kernel)
theorem fw_10 : ∀ w ∈ u_ws RX10 TX10 43, w ∈ lw_good := in_places [1247, 1249, 1251, 1253, 1255, 1257, 1259, 1261, 1263, 1265, 1267, 1269, 1271, 1273, 1275, 1277, 1279, 1281, 1283, 1285, 1287, 1289, 1291, 1293, 1295, 1297, 1299, 1301, 1303, 1305, 1307, 1309, 1311, 1313, 1315, 1317, 1319, 1321, 1323, 1325, 1327, 1329, 1331] (by decide +kernel) (by decide +kernel)
theorem fw_all : FW := le10 fw_0 fw_1 fw_2 fw_3 fw_4 fw_5 fw_6 fw_7 fw_8 fw_9 fw_10
