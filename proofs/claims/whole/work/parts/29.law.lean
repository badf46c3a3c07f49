def lawM (a0 a1 a2 a3 a4 a5 : Int32) (ι : iS) : Option (Int32 × iS) := if (a0 &&& (31 : Int32)) = 0 then Option.bind (m_X6_feed a1 a2 a3 a4 a5 ι) fun r179 => Option.bind (m_X7_feed a1 a2 a3 a4 a5 r179.2) fun r213 => if r179.1 = r213.1 then some (1, r213.2) else some (0, r213.2) else if (a0 &&& (31 : Int32)) = 1 then Option.bind (w_text a1 ι) fun r229 => Option.bind (m_X7_text a1 r229.2) fun r241 => Option.bind (m_X7_thrown r241.2) fun r247 => if r247.1 = r229.1 then if r229.1 = 0 then if (lg_cmp (gJ r247.2 125 0) (r241.1).toInt64) = 0 then some (1, r247.2) else some (0, r247.2) else some (1, r247.2) else some (0, r247.2) else if (a0 &&& (31 : Int32)) = 2 then Option.bind (m_X6_fault ι) fun r278 => Option.bind (m_X7_fault r278.2) fun r282 => if r278.1 = r282.1 then some (1, r282.2) else some (0, r282.2) else if (a0 &&& (31 : Int32)) = 3 then Option.bind (w_show a1 ι) fun r298 => Option.bind (m_X7_show a1 r298.2) fun r310 => Option.bind (m_X7_thrown r310.2) fun r316 => if r316.1 = r298.1 then if r298.1 = 0 then if (lg_cmp (gJ r316.2 125 0) (r310.1).toInt64) = 0 then some (1, r316.2) else some (0, r316.2) else some (1, r316.2) else some (0, r316.2) else if (a0 &&& (31 : Int32)) = 4 then Option.bind (w_hide a1 ι) fun r354 => Option.bind (m_X7_hide a1 r354.2) fun r366 => Option.bind (m_X7_thrown r366.2) fun r372 => if r372.1 = r354.1 then if r354.1 = 0 then if (lg_cmp (gJ r372.2 125 0) (r366.1).toInt64) = 0 then some (1, r372.2) else some (0, r372.2) else some (1, r372.2) else some (0, r372.2) else if (a0 &&& (31 : Int32)) = 5 then Option.bind (w_change a1 a2 ι) fun r416 => Option.bind (m_X7_change a1 a2 r416.2) fun r434 => Option.bind (m_X7_thrown r434.2) fun r440 => if r440.1 = r416.1 then if r416.1 = 0 then if (lg_cmp (gJ r440.2 125 0) (r434.1).toInt64) = 0 then some (1, r440.2) else some (0, r440.2) else some (1, r440.2) else some (0, r440.2) else if (a0 &&& (31 : Int32)) = 6 then Option.bind (w_mock a1 ι) fun r478 => Option.bind (m_X7_mock a1 r478.2) fun r490 => Option.bind (m_X7_thrown r490.2) fun r496 => if r496.1 = r478.1 then if r478.1 = 0 then if (lg_cmp (gJ r496.2 125 0) (r490.1).toInt64) = 0 then some (1, r496.2) else some (0, r496.2) else some (1, r496.2) else some (0, r496.2) else if (a0 &&& (31 : Int32)) = 7 then Option.bind (m_X6_undo ι) fun r527 => Option.bind (m_X7_undo r527.2) fun r531 => if r527.1 = r531.1 then some (1, r531.2) else some (0, r531.2) else if (a0 &&& (31 : Int32)) = 8 then Option.bind (w_told a1 ι) fun r547 => Option.bind (m_X7_told a1 r547.2) fun r559 => Option.bind (m_X7_thrown r559.2) fun r565 => if r565.1 = r547.1 then if r547.1 = 0 then if (lg_cmp (gJ r565.2 125 0) (r559.1).toInt64) = 0 then some (1, r565.2) else some (0, r565.2) else some (1, r565.2) else some (0, r565.2) else if (a0 &&& (31 : Int32)) = 9 then Option.bind (w_trait a1 a2 ι) fun r609 => Option.bind (m_X7_trait a1 a2 r609.2) fun r627 => Option.bind (m_X7_thrown r627.2) fun r633 => if r633.1 = r609.1 then if r609.1 = 0 then if (lg_cmp (gJ r633.2 125 0) (r627.1).toInt64) = 0 then some (1, r633.2) else some (0, r633.2) else some (1, r633.2) else some (0, r633.2) else if (a0 &&& (31 : Int32)) = 10 then Option.bind (w_value a1 a2 ι) fun r677 => Option.bind (m_X7_value a1 a2 r677.2) fun r695 => Option.bind (m_X7_thrown r695.2) fun r701 => if r701.1 = r677.1 then if r677.1 = 0 then if (lg_cmp (gJ r701.2 125 0) (r695.1).toInt64) = 0 then some (1, r701.2) else some (0, r701.2) else some (1, r701.2) else some (0, r701.2) else if (a0 &&& (31 : Int32)) = 11 then Option.bind (w_shown a1 ι) fun r739 => Option.bind (m_X7_shown a1 r739.2) fun r751 => Option.bind (m_X7_thrown r751.2) fun r757 => if r757.1 = r739.1 then if r739.1 = 0 then if (lg_cmp (gJ r757.2 125 0) (r751.1).toInt64) = 0 then some (1, r757.2) else some (0, r757.2) else some (1, r757.2) else some (0, r757.2) else if (a0 &&& (31 : Int32)) = 12 then if a2 = 0 then Option.bind (w_match a1 (0 : Int32) ι) fun r809 => if a2 = 0 then Option.bind (m_X7_match a1 (0 : Int32) r809.2) fun r835 => Option.bind (m_X7_thrown r835.2) fun r841 => if r841.1 = r809.1 then if r809.1 = 0 then if (lg_cmp (gJ r841.2 125 0) (r835.1).toInt64) = 0 then some (1, r841.2) else some (0, r841.2) else some (1, r841.2) else some (0, r841.2) else Option.bind (m_X7_match a1 (1 : Int32) r809.2) fun r835 => Option.bind (m_X7_thrown r835.2) fun r841 => if r841.1 = r809.1 then if r809.1 = 0 then if (lg_cmp (gJ r841.2 125 0) (r835.1).toInt64) = 0 then some (1, r841.2) else some (0, r841.2) else some (1, r841.2) else some (0, r841.2) else Option.bind (w_match a1 (1 : Int32) ι) fun r809 => if a2 = 0 then Option.bind (m_X7_match a1 (0 : Int32) r809.2) fun r835 => Option.bind (m_X7_thrown r835.2) fun r841 => if r841.1 = r809.1 then if r809.1 = 0 then if (lg_cmp (gJ r841.2 125 0) (r835.1).toInt64) = 0 then some (1, r841.2) else some (0, r841.2) else some (1, r841.2) else some (0, r841.2) else Option.bind (m_X7_match a1 (1 : Int32) r809.2) fun r835 => Option.bind (m_X7_thrown r835.2) fun r841 => if r841.1 = r809.1 then if r809.1 = 0 then if (lg_cmp (gJ r841.2 125 0) (r835.1).toInt64) = 0 then some (1, r841.2) else some (0, r841.2) else some (1, r841.2) else some (0, r841.2) else if (a0 &&& (31 : Int32)) = 13 then Option.bind (w_mocks a1 ι) fun r879 => Option.bind (m_X7_mocks a1 r879.2) fun r891 => Option.bind (m_X7_thrown r891.2) fun r897 => if r897.1 = r879.1 then if r879.1 = 0 then if (lg_cmp (gJ r897.2 125 0) (r891.1).toInt64) = 0 then some (1, r897.2) else some (0, r897.2) else some (1, r897.2) else some (0, r897.2) else if (a0 &&& (31 : Int32)) = 14 then Option.bind (w_alike a1 a2 ι) fun r941 => Option.bind (m_X7_alike a1 a2 r941.2) fun r959 => Option.bind (m_X7_thrown r959.2) fun r965 => if r965.1 = r941.1 then if r941.1 = 0 then if (lg_cmp (gJ r965.2 125 0) (r959.1).toInt64) = 0 then some (1, r965.2) else some (0, r965.2) else some (1, r965.2) else some (0, r965.2) else if (a0 &&& (31 : Int32)) = 15 then if a3 = 0 then if a4 = 0 then Option.bind (w_chance a1 a2 (0 : Int32) (0 : Int32) a5 ι) fun r1043 => if a3 = 0 then if a4 = 0 then Option.bind (m_X7_chance a1 a2 (0 : Int32) (0 : Int32) a5 r1043.2) fun r1095 => Option.bind (m_X7_thrown r1095.2) fun r1101 => if r1101.1 = r1043.1 then if r1043.1 = 0 then if (lg_cmp (gJ r1101.2 125 0) r1095.1) = 0 then some (1, r1101.2) else some (0, r1101.2) else some (1, r1101.2) else some (0, r1101.2) else Option.bind (m_X7_chance a1 a2 (0 : Int32) (1 : Int32) a5 r1043.2) fun r1095 => Option.bind (m_X7_thrown r1095.2) fun r1101 => if r1101.1 = r1043.1 then if r1043.1 = 0 then if (lg_cmp (gJ r1101.2 125 0) r1095.1) = 0 then some (1, r1101.2) else some (0, r1101.2) else some (1, r1101.2) else some (0, r1101.2) else if a4 = 0 then Option.bind (m_X7_chance a1 a2 (1 : Int32) (0 : Int32) a5 r1043.2) fun r1095 => Option.bind (m_X7_thrown r1095.2) fun r1101 => if r1101.1 = r1043.1 then if r1043.1 = 0 then if (lg_cmp (gJ r1101.2 125 0) r1095.1) = 0 then some (1, r1101.2) else some (0, r1101.2) else some (1, r1101.2) else some (0, r1101.2) else Option.bind (m_X7_chance a1 a2 (1 : Int32) (1 : Int32) a5 r1043.2) fun r1095 => Option.bind (m_X7_thrown r1095.2) fun r1101 => if r1101.1 = r1043.1 then if r1043.1 = 0 then if (lg_cmp (gJ r1101.2 125 0) r1095.1) = 0 then some (1, r1101.2) else some (0, r1101.2) else some (1, r1101.2) else some (0, r1101.2) else Option.bind (w_chance a1 a2 (0 : Int32) (1 : Int32) a5 ι) fun r1043 => if a3 = 0 then if a4 = 0 then Option.bind (m_X7_chance a1 a2 (0 : Int32) (0 : Int32) a5 r1043.2) fun r1095 => Option.bind (m_X7_thrown r1095.2) fun r1101 => if r1101.1 = r1043.1 then if r1043.1 = 0 then if (lg_cmp (gJ r1101.2 125 0) r1095.1) = 0 then some (1, r1101.2) else some (0, r1101.2) else some (1, r1101.2) else some (0, r1101.2) else Option.bind (m_X7_chance a1 a2 (0 : Int32) (1 : Int32) a5 r1043.2) fun r1095 => Option.bind (m_X7_thrown r1095.2) fun r1101 => if r1101.1 = r1043.1 then if r1043.1 = 0 then if (lg_cmp (gJ r1101.2 125 0) r1095.1) = 0 then some (1, r1101.2) else some (0, r1101.2) else some (1, r1101.2) else some (0, r1101.2) else if a4 = 0 then Option.bind (m_X7_chance a1 a2 (1 : Int32) (0 : Int32) a5 r1043.2) fun r1095 => Option.bind (m_X7_thrown r1095.2) fun r1101 => if r1101.1 = r1043.1 then if r1043.1 = 0 then if (lg_cmp (gJ r1101.2 125 0) r1095.1) = 0 then some (1, r1101.2) else some (0, r1101.2) else some (1, r1101.2) else some (0, r1101.2) else Option.bind (m_X7_chance a1 a2 (1 : Int32) (1 : Int32) a5 r1043.2) fun r1095 => Option.bind (m_X7_thrown r1095.2) fun r1101 => if r1101.1 = r1043.1 then if r1043.1 = 0 then if (lg_cmp (gJ r1101.2 125 0) r1095.1) = 0 then some (1, r1101.2) else some (0, r1101.2) else some (1, r1101.2) else some (0, r1101.2) else if a4 = 0 then Option.bind (w_chance a1 a2 (1 : Int32) (0 : Int32) a5 ι) fun r1043 => if a3 = 0 then if a4 = 0 then Option.bind (m_X7_chance a1 a2 (0 : Int32) (0 : Int32) a5 r1043.2) fun r1095 => Option.bind (m_X7_thrown r1095.2) fun r1101 => if r1101.1 = r1043.1 then if r1043.1 = 0 then if (lg_cmp (gJ r1101.2 125 0) r1095.1) = 0 then some (1, r1101.2) else some (0, r1101.2) else some (1, r1101.2) else some (0, r1101.2) else Option.bind (m_X7_chance a1 a2 (0 : Int32) (1 : Int32) a5 r1043.2) fun r1095 => Option.bind (m_X7_thrown r1095.2) fun r1101 => if r1101.1 = r1043.1 then if r1043.1 = 0 then if (lg_cmp (gJ r1101.2 125 0) r1095.1) = 0 then some (1, r1101.2) else some (0, r1101.2) else some (1, r1101.2) else some (0, r1101.2) else if a4 = 0 then Option.bind (m_X7_chance a1 a2 (1 : Int32) (0 : Int32) a5 r1043.2) fun r1095 => Option.bind (m_X7_thrown r1095.2) fun r1101 => if r1101.1 = r1043.1 then if r1043.1 = 0 then if (lg_cmp (gJ r1101.2 125 0) r1095.1) = 0 then some (1, r1101.2) else some (0, r1101.2) else some (1, r1101.2) else some (0, r1101.2) else Option.bind (m_X7_chance a1 a2 (1 : Int32) (1 : Int32) a5 r1043.2) fun r1095 => Option.bind (m_X7_thrown r1095.2) fun r1101 => if r1101.1 = r1043.1 then if r1043.1 = 0 then if (lg_cmp (gJ r1101.2 125 0) r1095.1) = 0 then some (1, r1101.2) else some (0, r1101.2) else some (1, r1101.2) else some (0, r1101.2) else Option.bind (w_chance a1 a2 (1 : Int32) (1 : Int32) a5 ι) fun r1043 => if a3 = 0 then if a4 = 0 then Option.bind (m_X7_chance a1 a2 (0 : Int32) (0 : Int32) a5 r1043.2) fun r1095 => Option.bind (m_X7_thrown r1095.2) fun r1101 => if r1101.1 = r1043.1 then if r1043.1 = 0 then if (lg_cmp (gJ r1101.2 125 0) r1095.1) = 0 then some (1, r1101.2) else some (0, r1101.2) else some (1, r1101.2) else some (0, r1101.2) else Option.bind (m_X7_chance a1 a2 (0 : Int32) (1 : Int32) a5 r1043.2) fun r1095 => Option.bind (m_X7_thrown r1095.2) fun r1101 => if r1101.1 = r1043.1 then if r1043.1 = 0 then if (lg_cmp (gJ r1101.2 125 0) r1095.1) = 0 then some (1, r1101.2) else some (0, r1101.2) else some (1, r1101.2) else some (0, r1101.2) else if a4 = 0 then Option.bind (m_X7_chance a1 a2 (1 : Int32) (0 : Int32) a5 r1043.2) fun r1095 => Option.bind (m_X7_thrown r1095.2) fun r1101 => if r1101.1 = r1043.1 then if r1043.1 = 0 then if (lg_cmp (gJ r1101.2 125 0) r1095.1) = 0 then some (1, r1101.2) else some (0, r1101.2) else some (1, r1101.2) else some (0, r1101.2) else Option.bind (m_X7_chance a1 a2 (1 : Int32) (1 : Int32) a5 r1043.2) fun r1095 => Option.bind (m_X7_thrown r1095.2) fun r1101 => if r1101.1 = r1043.1 then if r1043.1 = 0 then if (lg_cmp (gJ r1101.2 125 0) r1095.1) = 0 then some (1, r1101.2) else some (0, r1101.2) else some (1, r1101.2) else some (0, r1101.2) else if (a0 &&& (31 : Int32)) = 16 then Option.bind (w_size a1 ι) fun r1138 => Option.bind (m_X7_size a1 r1138.2) fun r1150 => Option.bind (m_X7_thrown r1150.2) fun r1156 => if r1156.1 = r1138.1 then if r1138.1 = 0 then if (lg_cmp (gJ r1156.2 125 0) r1150.1) = 0 then some (1, r1156.2) else some (0, r1156.2) else some (1, r1156.2) else some (0, r1156.2) else if (a0 &&& (31 : Int32)) = 17 then Option.bind (w_fairest a1 a2 ι) fun r1199 => Option.bind (m_X7_fairest a1 a2 r1199.2) fun r1217 => Option.bind (m_X7_thrown r1217.2) fun r1223 => if r1223.1 = r1199.1 then if r1199.1 = 0 then if (lg_cmp (gJ r1223.2 125 0) r1217.1) = 0 then some (1, r1223.2) else some (0, r1223.2) else some (1, r1223.2) else some (0, r1223.2) else if (a0 &&& (31 : Int32)) = 18 then if a2 = 0 then if a3 = 0 then Option.bind (w_odds a1 (0 : Int32) (0 : Int32) a4 ι) fun r1294 => if a2 = 0 then if a3 = 0 then Option.bind (m_X7_odds a1 (0 : Int32) (0 : Int32) a4 r1294.2) fun r1340 => Option.bind (m_X7_thrown r1340.2) fun r1346 => if r1346.1 = r1294.1 then if r1294.1 = 0 then if (lg_cmp (gJ r1346.2 125 0) r1340.1) = 0 then some (1, r1346.2) else some (0, r1346.2) else some (1, r1346.2) else some (0, r1346.2) else Option.bind (m_X7_odds a1 (0 : Int32) (1 : Int32) a4 r1294.2) fun r1340 => Option.bind (m_X7_thrown r1340.2) fun r1346 => if r1346.1 = r1294.1 then if r1294.1 = 0 then if (lg_cmp (gJ r1346.2 125 0) r1340.1) = 0 then some (1, r1346.2) else some (0, r1346.2) else some (1, r1346.2) else some (0, r1346.2) else if a3 = 0 then Option.bind (m_X7_odds a1 (1 : Int32) (0 : Int32) a4 r1294.2) fun r1340 => Option.bind (m_X7_thrown r1340.2) fun r1346 => if r1346.1 = r1294.1 then if r1294.1 = 0 then if (lg_cmp (gJ r1346.2 125 0) r1340.1) = 0 then some (1, r1346.2) else some (0, r1346.2) else some (1, r1346.2) else some (0, r1346.2) else Option.bind (m_X7_odds a1 (1 : Int32) (1 : Int32) a4 r1294.2) fun r1340 => Option.bind (m_X7_thrown r1340.2) fun r1346 => if r1346.1 = r1294.1 then if r1294.1 = 0 then if (lg_cmp (gJ r1346.2 125 0) r1340.1) = 0 then some (1, r1346.2) else some (0, r1346.2) else some (1, r1346.2) else some (0, r1346.2) else Option.bind (w_odds a1 (0 : Int32) (1 : Int32) a4 ι) fun r1294 => if a2 = 0 then if a3 = 0 then Option.bind (m_X7_odds a1 (0 : Int32) (0 : Int32) a4 r1294.2) fun r1340 => Option.bind (m_X7_thrown r1340.2) fun r1346 => if r1346.1 = r1294.1 then if r1294.1 = 0 then if (lg_cmp (gJ r1346.2 125 0) r1340.1) = 0 then some (1, r1346.2) else some (0, r1346.2) else some (1, r1346.2) else some (0, r1346.2) else Option.bind (m_X7_odds a1 (0 : Int32) (1 : Int32) a4 r1294.2) fun r1340 => Option.bind (m_X7_thrown r1340.2) fun r1346 => if r1346.1 = r1294.1 then if r1294.1 = 0 then if (lg_cmp (gJ r1346.2 125 0) r1340.1) = 0 then some (1, r1346.2) else some (0, r1346.2) else some (1, r1346.2) else some (0, r1346.2) else if a3 = 0 then Option.bind (m_X7_odds a1 (1 : Int32) (0 : Int32) a4 r1294.2) fun r1340 => Option.bind (m_X7_thrown r1340.2) fun r1346 => if r1346.1 = r1294.1 then if r1294.1 = 0 then if (lg_cmp (gJ r1346.2 125 0) r1340.1) = 0 then some (1, r1346.2) else some (0, r1346.2) else some (1, r1346.2) else some (0, r1346.2) else Option.bind (m_X7_odds a1 (1 : Int32) (1 : Int32) a4 r1294.2) fun r1340 => Option.bind (m_X7_thrown r1340.2) fun r1346 => if r1346.1 = r1294.1 then if r1294.1 = 0 then if (lg_cmp (gJ r1346.2 125 0) r1340.1) = 0 then some (1, r1346.2) else some (0, r1346.2) else some (1, r1346.2) else some (0, r1346.2) else if a3 = 0 then Option.bind (w_odds a1 (1 : Int32) (0 : Int32) a4 ι) fun r1294 => if a2 = 0 then if a3 = 0 then Option.bind (m_X7_odds a1 (0 : Int32) (0 : Int32) a4 r1294.2) fun r1340 => Option.bind (m_X7_thrown r1340.2) fun r1346 => if r1346.1 = r1294.1 then if r1294.1 = 0 then if (lg_cmp (gJ r1346.2 125 0) r1340.1) = 0 then some (1, r1346.2) else some (0, r1346.2) else some (1, r1346.2) else some (0, r1346.2) else Option.bind (m_X7_odds a1 (0 : Int32) (1 : Int32) a4 r1294.2) fun r1340 => Option.bind (m_X7_thrown r1340.2) fun r1346 => if r1346.1 = r1294.1 then if r1294.1 = 0 then if (lg_cmp (gJ r1346.2 125 0) r1340.1) = 0 then some (1, r1346.2) else some (0, r1346.2) else some (1, r1346.2) else some (0, r1346.2) else if a3 = 0 then Option.bind (m_X7_odds a1 (1 : Int32) (0 : Int32) a4 r1294.2) fun r1340 => Option.bind (m_X7_thrown r1340.2) fun r1346 => if r1346.1 = r1294.1 then if r1294.1 = 0 then if (lg_cmp (gJ r1346.2 125 0) r1340.1) = 0 then some (1, r1346.2) else some (0, r1346.2) else some (1, r1346.2) else some (0, r1346.2) else Option.bind (m_X7_odds a1 (1 : Int32) (1 : Int32) a4 r1294.2) fun r1340 => Option.bind (m_X7_thrown r1340.2) fun r1346 => if r1346.1 = r1294.1 then if r1294.1 = 0 then if (lg_cmp (gJ r1346.2 125 0) r1340.1) = 0 then some (1, r1346.2) else some (0, r1346.2) else some (1, r1346.2) else some (0, r1346.2) else Option.bind (w_odds a1 (1 : Int32) (1 : Int32) a4 ι) fun r1294 => if a2 = 0 then if a3 = 0 then Option.bind (m_X7_odds a1 (0 : Int32) (0 : Int32) a4 r1294.2) fun r1340 => Option.bind (m_X7_thrown r1340.2) fun r1346 => if r1346.1 = r1294.1 then if r1294.1 = 0 then if (lg_cmp (gJ r1346.2 125 0) r1340.1) = 0 then some (1, r1346.2) else some (0, r1346.2) else some (1, r1346.2) else some (0, r1346.2) else Option.bind (m_X7_odds a1 (0 : Int32) (1 : Int32) a4 r1294.2) fun r1340 => Option.bind (m_X7_thrown r1340.2) fun r1346 => if r1346.1 = r1294.1 then if r1294.1 = 0 then if (lg_cmp (gJ r1346.2 125 0) r1340.1) = 0 then some (1, r1346.2) else some (0, r1346.2) else some (1, r1346.2) else some (0, r1346.2) else if a3 = 0 then Option.bind (m_X7_odds a1 (1 : Int32) (0 : Int32) a4 r1294.2) fun r1340 => Option.bind (m_X7_thrown r1340.2) fun r1346 => if r1346.1 = r1294.1 then if r1294.1 = 0 then if (lg_cmp (gJ r1346.2 125 0) r1340.1) = 0 then some (1, r1346.2) else some (0, r1346.2) else some (1, r1346.2) else some (0, r1346.2) else Option.bind (m_X7_odds a1 (1 : Int32) (1 : Int32) a4 r1294.2) fun r1340 => Option.bind (m_X7_thrown r1340.2) fun r1346 => if r1346.1 = r1294.1 then if r1294.1 = 0 then if (lg_cmp (gJ r1346.2 125 0) r1340.1) = 0 then some (1, r1346.2) else some (0, r1346.2) else some (1, r1346.2) else some (0, r1346.2) else if (a0 &&& (31 : Int32)) = 19 then Option.bind (w_cut a1 ι) fun r1383 => Option.bind (m_X7_cut a1 r1383.2) fun r1395 => Option.bind (m_X7_thrown r1395.2) fun r1401 => if r1401.1 = r1383.1 then if r1383.1 = 0 then if (lg_cmp (gJ r1401.2 125 0) (r1395.1).toInt64) = 0 then some (1, r1401.2) else some (0, r1401.2) else some (1, r1401.2) else some (0, r1401.2) else if (a0 &&& (31 : Int32)) = 20 then Option.bind (w_nudged a1 ι) fun r1439 => Option.bind (m_X7_nudged a1 r1439.2) fun r1451 => Option.bind (m_X7_thrown r1451.2) fun r1457 => if r1457.1 = r1439.1 then if r1439.1 = 0 then if (lg_cmp (gJ r1457.2 125 0) (r1451.1).toInt64) = 0 then some (1, r1457.2) else some (0, r1457.2) else some (1, r1457.2) else some (0, r1457.2) else if (a0 &&& (31 : Int32)) = 21 then Option.bind (m_X6_print ι) fun r1488 => Option.bind (m_X7_print r1488.2) fun r1492 => if (lg_cmp r1488.1 r1492.1) = 0 then some (1, r1492.2) else some (0, r1492.2) else if (a0 &&& (31 : Int32)) = 22 then Option.bind (m_X6_status a1 ι) fun r1508 => Option.bind (m_X7_status a1 r1508.2) fun r1518 => if r1508.1 = r1518.1 then some (1, r1518.2) else some (0, r1518.2) else some (1, ι)
theorem kw_text : aCalW yL_text cL_text 4 [(0, 9, 12, 13)] 3 := ⟨wS_yL_text, wZ_L, wW_yL_text, by decide +kernel⟩
theorem kw_show : aCalW yL_show cL_show 4 [(0, 9, 12, 18), (0, 9, 15, 20)] 3 := ⟨wS_yL_show, wZ_L, wW_yL_show, by decide +kernel⟩
theorem kw_hide : aCalW yL_hide cL_hide 4 [(0, 9, 12, 18)] 3 := ⟨wS_yL_hide, wZ_L, wW_yL_hide, by decide +kernel⟩
theorem kw_change : aCalW yL_change cL_change 5 [(0, 10, 13, 13)] 4 := ⟨wS_yL_change, wZ_L, wW_yL_change, by decide +kernel⟩
theorem kw_mock : aCalW yL_mock cL_mock 4 [(0, 9, 12, 18), (0, 9, 15, 20)] 3 := ⟨wS_yL_mock, wZ_L, wW_yL_mock, by decide +kernel⟩
theorem kw_told : aCalW yL_told cL_told 4 [(0, 9, 12, 13)] 3 := ⟨wS_yL_told, wZ_L, wW_yL_told, by decide +kernel⟩
theorem kw_trait : aCalW yL_trait cL_trait 5 [(0, 10, 13, 18), (0, 10, 17, 13)] 4 := ⟨wS_yL_trait, wZ_L, wW_yL_trait, by decide +kernel⟩
theorem kw_value : aCalW yL_value cL_value 5 [(0, 10, 13, 18)] 4 := ⟨wS_yL_value, wZ_L, wW_yL_value, by decide +kernel⟩
theorem kw_shown : aCalW yL_shown cL_shown 4 [(0, 9, 12, 18)] 3 := ⟨wS_yL_shown, wZ_L, wW_yL_shown, by decide +kernel⟩
theorem kw_match : aCalW yL_match cL_match 5 [(0, 10, 13, 18)] 4 := ⟨wS_yL_match, wZ_L, wW_yL_match, by decide +kernel⟩
theorem kw_mocks : aCalW yL_mocks cL_mocks 4 [(0, 9, 12, 18)] 3 := ⟨wS_yL_mocks, wZ_L, wW_yL_mocks, by decide +kernel⟩
theorem kw_alike : aCalW yL_alike cL_alike 5 [(0, 10, 13, 18)] 4 := ⟨wS_yL_alike, wZ_L, wW_yL_alike, by decide +kernel⟩
theorem kw_chance : aCalW yL_chance cL_chance 8 [(0, 15, 18, 18), (0, 15, 22, 13)] 7 := ⟨wS_yL_chance, wZ_L, wW_yL_chance, by decide +kernel⟩
theorem kw_size : aCalW yL_size cL_size 4 [(0, 8, 11, 13)] 3 := ⟨wS_yL_size, wZ_L, wW_yL_size, by decide +kernel⟩
theorem kw_fairest : aCalW yL_fairest cL_fairest 5 [(0, 9, 12, 13)] 4 := ⟨wS_yL_fairest, wZ_L, wW_yL_fairest, by decide +kernel⟩
theorem kw_odds : aCalW yL_odds cL_odds 7 [(0, 13, 16, 13), (0, 13, 20, 20)] 6 := ⟨wS_yL_odds, wZ_L, wW_yL_odds, by decide +kernel⟩
theorem kw_cut : aCalW yL_cut cL_cut 4 [(0, 9, 12, 13), (0, 9, 15, 20)] 3 := ⟨wS_yL_cut, wZ_L, wW_yL_cut, by decide +kernel⟩
theorem kw_nudged : aCalW yL_nudged cL_nudged 4 [(0, 9, 12, 13), (0, 9, 15, 20)] 3 := ⟨wS_yL_nudged, wZ_L, wW_yL_nudged, by decide +kernel⟩
set_option maxHeartbeats 400000 in
set_option maxRecDepth 100000 in
theorem law_step (l : Launch) (hst : l.stackTraces = false) {p : Program} {e : Env} {s : State} {m : MethodId} {args : Array Value} {below : List Frame} {meth : Method} {c : Code} {D : va_G} {dA : Nat → ClassId} {ad adV : Nat → Nat} {A : Nat → Prop} {ret : Option FieldType} {Q : State → Prop} (C : aX p m c cL_law 8 s args aTs RL meth ret) {b L n : Nat} {xs : Nat → Int32} (hX : va_X b L xs s s.heap) (hbl : b < s.heap.size) (hbA : ¬ A b) (hL : L ≤ 3072) (hn : n + 6 ≤ L) {a0 a1 a2 a3 a4 a5 : Int32} (h0 : xs (n + 0) = a0) (h1 : xs (n + 1) = a1) (h2 : xs (n + 2) = a2) (h3 : xs (n + 3) = a3) (h4 : xs (n + 4) = a4) (h5 : xs (n + 5) = a5) {ι ι9 : iS} (hM : lawM a0 a1 a2 a3 a4 a5 ι = some (1, ι9)) {cells slots : Nat} (hcs : cells + 1 ≤ room_1.cells ∧ slots + 6 ≤ room_1.slots)
    (hk : ∀ {H : Heap} {locs : List Loc} {ls : Array Slot}, aW D dA ad adV (aG ι9) A s H locs → lv_has ls 8 [(0, .ref b), (1, .ref (ad 0)), (2, .ref (ad 109)), (3, .ref (ad 125)), (4, .int (nI (n + 6)))] → W p l e room_1 s m args below meth c H locs (cells + 1) (slots + 6) Q (F0 m 23 ls []))
    {H : Heap} {locs : List Loc} {ls : Array Slot} (hw : aW D dA ad adV (aG ι) A s H locs) (hl : lv_has ls 8 [(0, .ref b), (1, .ref (ad 0)), (2, .ref (ad 109)), (3, .ref (ad 125)), (4, .int (nI n))]) : W p l e room_1 s m args below meth c H locs cells slots Q (F0 m 33 ls []) := by
  have hx := C.1.1
  have hb := C.1.2.1
  have hml := C.1.2.2.1
  have hown := C.1.2.2.2.1
  have hts := C.1.2.2.2.2
  unfold lawM at hM
  refine lv_aload_n hx hb dL_law_33 rfl (lv_at hl 0 rfl) ?_
  refine lv_iload hx hb dL_law_34 (lv_at hl 4 rfl) ?_
  refine s_sld (n := n) (k := 0) C hw hX hbl hbA rfl (by omega) hL h0 dL_law_36 ?_
  refine lv_bipush (v := (31 : Int32)) hx hb dL_law_37 (by decide) ?_
  refine lv_iand hx hb dL_law_39 ?_
  -- switch
  by_cases hc0 : (a0 &&& (31 : Int32)) = 0
  · replace hM := h_t hc0 hM
    refine lv_tableIn (tgt := 148) hx hb dL_law_40 (by rw [hc0]; decide) (by rw [hc0]; decide) (off := 108) (by rw [hc0]; decide) (by decide) ?_
    refine lv_aload_n hx hb dL_law_148 rfl (lv_at hl 1 rfl) ?_
    refine lv_aload_n hx hb dL_law_149 rfl (lv_at hl 0 rfl) ?_
    refine lv_iload hx hb dL_law_150 (lv_at hl 4 rfl) ?_
    refine lv_iconst (v := (1 : Int32)) hx hb dL_law_152 (by decide) ?_
    refine lv_iadd hx hb dL_law_153 ?_
    refine s_sld (n := n) (k := 1) C hw hX hbl hbA (nI_ad n 1) (by omega) hL h1 dL_law_154 ?_
    refine lv_aload_n hx hb dL_law_155 rfl (lv_at hl 0 rfl) ?_
    refine lv_iload hx hb dL_law_156 (lv_at hl 4 rfl) ?_
    refine lv_iconst (v := (2 : Int32)) hx hb dL_law_158 (by decide) ?_
    refine lv_iadd hx hb dL_law_159 ?_
    refine s_sld (n := n) (k := 2) C hw hX hbl hbA (nI_ad n 2) (by omega) hL h2 dL_law_160 ?_
    refine lv_aload_n hx hb dL_law_161 rfl (lv_at hl 0 rfl) ?_
    refine lv_iload hx hb dL_law_162 (lv_at hl 4 rfl) ?_
    refine lv_iconst (v := (3 : Int32)) hx hb dL_law_164 (by decide) ?_
    refine lv_iadd hx hb dL_law_165 ?_
    refine s_sld (n := n) (k := 3) C hw hX hbl hbA (nI_ad n 3) (by omega) hL h3 dL_law_166 ?_
    refine lv_aload_n hx hb dL_law_167 rfl (lv_at hl 0 rfl) ?_
    refine lv_iload hx hb dL_law_168 (lv_at hl 4 rfl) ?_
    refine lv_iconst (v := (4 : Int32)) hx hb dL_law_170 (by decide) ?_
    refine lv_iadd hx hb dL_law_171 ?_
    refine s_sld (n := n) (k := 4) C hw hX hbl hbA (nI_ad n 4) (by omega) hL h4 dL_law_172 ?_
    refine lv_aload_n hx hb dL_law_173 rfl (lv_at hl 0 rfl) ?_
    refine lv_iload hx hb dL_law_174 (lv_at hl 4 rfl) ?_
    refine lv_iconst (v := (5 : Int32)) hx hb dL_law_176 (by decide) ?_
    refine lv_iadd hx hb dL_law_177 ?_
    refine s_sld (n := n) (k := 5) C hw hX hbl hbA (nI_ad n 5) (by omega) hL h5 dL_law_178 ?_
    obtain ⟨r179, hr179, hM⟩ := h_b hM
    refine a_callV (σ' := aG r179.2) (v := (some (.int r179.1))) (As := fun ad => [.int a1, .int a2, .int a3, .int a4, .int a5]) (rest := []) (o := 0) C hw (c_X6_feed l hr179) k_X6_feed wM_L_80 ⟨⟨rfl, rfl⟩, ⟨Nat.le_of_ble_eq_true rfl, Nat.le_of_ble_eq_true rfl⟩⟩ rfl (by decide) rfl rfl rfl hl rfl (Nat.le_of_ble_eq_true rfl) dL_law_179 ⟨Nat.le_trans (Nat.le_succ _) hcs.1, Nat.le_trans (Nat.le_add_right _ 6) hcs.2⟩ (fun H locs hw => ?_)
    refine lv_aload_n hx hb dL_law_182 rfl (lv_at hl 2 rfl) ?_
    refine lv_aload_n hx hb dL_law_183 rfl (lv_at hl 0 rfl) ?_
    refine lv_iload hx hb dL_law_184 (lv_at hl 4 rfl) ?_
    refine lv_iconst (v := (1 : Int32)) hx hb dL_law_186 (by decide) ?_
    refine lv_iadd hx hb dL_law_187 ?_
    refine s_sld (n := n) (k := 1) C hw hX hbl hbA (nI_ad n 1) (by omega) hL h1 dL_law_188 ?_
    refine lv_aload_n hx hb dL_law_189 rfl (lv_at hl 0 rfl) ?_
    refine lv_iload hx hb dL_law_190 (lv_at hl 4 rfl) ?_
    refine lv_iconst (v := (2 : Int32)) hx hb dL_law_192 (by decide) ?_
    refine lv_iadd hx hb dL_law_193 ?_
    refine s_sld (n := n) (k := 2) C hw hX hbl hbA (nI_ad n 2) (by omega) hL h2 dL_law_194 ?_
    refine lv_aload_n hx hb dL_law_195 rfl (lv_at hl 0 rfl) ?_
    refine lv_iload hx hb dL_law_196 (lv_at hl 4 rfl) ?_
    refine lv_iconst (v := (3 : Int32)) hx hb dL_law_198 (by decide) ?_
    refine lv_iadd hx hb dL_law_199 ?_
    refine s_sld (n := n) (k := 3) C hw hX hbl hbA (nI_ad n 3) (by omega) hL h3 dL_law_200 ?_
    refine lv_aload_n hx hb dL_law_201 rfl (lv_at hl 0 rfl) ?_
    refine lv_iload hx hb dL_law_202 (lv_at hl 4 rfl) ?_
    refine lv_iconst (v := (4 : Int32)) hx hb dL_law_204 (by decide) ?_
    refine lv_iadd hx hb dL_law_205 ?_
    refine s_sld (n := n) (k := 4) C hw hX hbl hbA (nI_ad n 4) (by omega) hL h4 dL_law_206 ?_
    refine lv_aload_n hx hb dL_law_207 rfl (lv_at hl 0 rfl) ?_
    refine lv_iload hx hb dL_law_208 (lv_at hl 4 rfl) ?_
    refine lv_iconst (v := (5 : Int32)) hx hb dL_law_210 (by decide) ?_
    refine lv_iadd hx hb dL_law_211 ?_
    refine s_sld (n := n) (k := 5) C hw hX hbl hbA (nI_ad n 5) (by omega) hL h5 dL_law_212 ?_
    obtain ⟨r213, hr213, hM⟩ := h_b hM
    refine a_callV (σ' := aG r213.2) (v := (some (.int r213.1))) (As := fun ad => [.int a1, .int a2, .int a3, .int a4, .int a5]) (rest := [.int r179.1]) (o := 109) C hw (c_X7_feed l hr213) k_X7_feed wM_L_84 ⟨⟨rfl, rfl⟩, ⟨Nat.le_of_ble_eq_true rfl, Nat.le_of_ble_eq_true rfl⟩⟩ rfl (by decide) rfl rfl rfl hl rfl (Nat.le_of_ble_eq_true rfl) dL_law_213 ⟨Nat.le_trans (Nat.le_succ _) hcs.1, Nat.le_trans (Nat.le_add_right _ 6) hcs.2⟩ (fun H locs hw => ?_)
    refine lv_icmp_eq (tgt := 1526) hx hb dL_law_216 (by decide) (fun hc => ?_) (fun hc => ?_)
    · replace hM := h_t hc hM
      refine lv_iinc (v := nI (n + 6)) (lv' := [(4, .int (nI (n + 6))), (0, .ref b), (1, .ref (ad 0)), (2, .ref (ad 109)), (3, .ref (ad 125))]) hx hb dL_law_1526 hl (k := 4) rfl (by rw [show Int32.ofInt 6 = nI 6 from by decide, nI_add]) (by decide) rfl (fun ls hl => ?_)
      refine lv_goto (tgt := 23) hx hb dL_law_1529 (by decide) ?_
      cases h_e hM
      exact W.widen (Nat.le_succ _) (Nat.le_add_right _ 6) (hk hw (lv_sub hl [1, 2, 3, 4, 0] rfl))
    · replace hM := h_f hc hM
      refine lv_iconst (v := (0 : Int32)) hx hb dL_law_219 (by decide) ?_
      exact absurd (congrArg Prod.fst (h_e hM)) (by simp)
  · replace hM := h_f hc0 hM
    by_cases hc1 : (a0 &&& (31 : Int32)) = 1
    · replace hM := h_t hc1 hM
      refine lv_tableIn (tgt := 221) hx hb dL_law_40 (by rw [hc1]; decide) (by rw [hc1]; decide) (off := 181) (by rw [hc1]; decide) (by decide) ?_
      refine lv_aload_n hx hb dL_law_221 rfl (lv_at hl 1 rfl) ?_
      refine lv_aload_n hx hb dL_law_222 rfl (lv_at hl 0 rfl) ?_
      refine lv_iload hx hb dL_law_223 (lv_at hl 4 rfl) ?_
      refine lv_iconst (v := (1 : Int32)) hx hb dL_law_225 (by decide) ?_
      refine lv_iadd hx hb dL_law_226 ?_
      refine s_sld (n := n) (k := 1) C hw hX hbl hbA (nI_ad n 1) (by omega) hL h1 dL_law_227 ?_
      refine lv_aload_n hx hb dL_law_228 rfl (lv_at hl 3 rfl) ?_
      obtain ⟨r229, hr229, hM⟩ := h_b hM
      refine x_callW (σ' := aG r229.2) (v := (some (.int r229.1))) (as := fun ad => [.ref (ad 0), .int a1, .ref (ad 125)]) (rest := []) C hw (cw_text l hst hr229) kw_text wM_L_85 ⟨Nat.le_of_ble_eq_true rfl, Nat.le_of_ble_eq_true rfl⟩ rfl hl rfl (Nat.le_of_ble_eq_true rfl) dL_law_229 hcs (fun H locs hw => ?_)
      refine lv_istore (lv' := [(5, .int r229.1), (0, .ref b), (1, .ref (ad 0)), (2, .ref (ad 109)), (3, .ref (ad 125)), (4, .int (nI n))]) hx hb dL_law_232 hl (by decide) rfl (fun ls hl => ?_)
      refine lv_aload_n hx hb dL_law_234 rfl (lv_at hl 3 rfl) ?_
      refine lv_aload_n hx hb dL_law_235 rfl (lv_at hl 1 rfl) ?_
      refine lv_iload hx hb dL_law_236 (lv_at hl 5 rfl) ?_
      refine lv_iconst (v := (1 : Int32)) hx hb dL_law_238 (by decide) ?_
      refine lv_iadd hx hb dL_law_239 ?_
      refine s_sld (n := n) (k := 1) C hw hX hbl hbA (nI_ad n 1) (by omega) hL h1 dL_law_240 ?_
      obtain ⟨r241, hr241, hM⟩ := h_b hM
      refine a_callV (σ' := aG r241.2) (v := (some (.int r241.1))) (As := fun ad => [.int a1]) (rest := []) (o := 109) C hw (c_X7_text l hr241) k_X7_text wM_L_90 ⟨⟨rfl, rfl⟩, ⟨Nat.le_of_ble_eq_true rfl, Nat.le_of_ble_eq_true rfl⟩⟩ rfl (by decide) rfl rfl rfl hl rfl (Nat.le_of_ble_eq_true rfl) dL_law_241 hcs (fun H locs hw => ?_)
      refine lv_istore (lv' := [(6, .int r241.1), (5, .int r229.1), (0, .ref b), (1, .ref (ad 0)), (2, .ref (ad 109)), (3, .ref (ad 125)), (4, .int (nI n))]) hx hb dL_law_244 hl (by decide) rfl (fun ls hl => ?_)
      refine lv_aload_n hx hb dL_law_246 rfl (lv_at hl 4 rfl) ?_
      obtain ⟨r247, hr247, hM⟩ := h_b hM
      refine a_callV (σ' := aG r247.2) (v := (some (.int r247.1))) (As := fun ad => []) (rest := []) (o := 109) C hw (c_X7_thrown l hr247) k_X7_thrown wM_L_91 ⟨⟨rfl, rfl⟩, ⟨Nat.le_of_ble_eq_true rfl, Nat.le_of_ble_eq_true rfl⟩⟩ rfl (by decide) rfl rfl rfl hl rfl (Nat.le_of_ble_eq_true rfl) dL_law_247 hcs (fun H locs hw => ?_)
      refine lv_iload hx hb dL_law_250 (lv_at hl 1 rfl) ?_
      refine lv_icmp_eq (tgt := 257) hx hb dL_law_252 (by decide) (fun hc => ?_) (fun hc => ?_)
      · replace hM := h_t hc hM
        refine lv_iload hx hb dL_law_257 (lv_at hl 1 rfl) ?_
        refine lv_if_ne (tgt := 274) hx hb dL_law_259 (by decide) (fun hc => ?_) (fun hc => ?_)
        · replace hM := h_f hc hM
          refine lv_goto (tgt := 1526) hx hb dL_law_274 (by decide) ?_
          refine lv_iinc (v := nI (n + 6)) (lv' := [(4, .int (nI (n + 6))), (6, .int r241.1), (5, .int r229.1), (0, .ref b), (1, .ref (ad 0)), (2, .ref (ad 109)), (3, .ref (ad 125))]) hx hb dL_law_1526 hl (k := 6) rfl (by rw [show Int32.ofInt 6 = nI 6 from by decide, nI_add]) (by decide) rfl (fun ls hl => ?_)
          refine lv_goto (tgt := 23) hx hb dL_law_1529 (by decide) ?_
          cases h_e hM
          exact hk hw (lv_sub hl [3, 4, 5, 6, 0] rfl)
        · replace hM := h_t hc hM
          refine lv_aload_n hx hb dL_law_262 rfl (lv_at hl 5 rfl) ?_
          refine lv_iconst (v := (0 : Int32)) hx hb dL_law_263 (by decide) ?_
          refine a_lald (σ := aG r247.2) (o := 125) C hw rfl (aIn_v (by decide)) (show (0 : Int32).toNatClampNeg = 0 by decide) dL_law_264 ?_
          refine lv_iload hx hb dL_law_265 (lv_at hl 0 rfl) ?_
          refine lv_i2l hx hb dL_law_267 rfl ?_
          refine W.lcmp hx hb dL_law_268 ?_
          refine lv_if_eq (tgt := 274) hx hb dL_law_269 (by decide) (fun hc => ?_) (fun hc => ?_)
          · replace hM := h_t hc hM
            refine lv_goto (tgt := 1526) hx hb dL_law_274 (by decide) ?_
            refine lv_iinc (v := nI (n + 6)) (lv' := [(4, .int (nI (n + 6))), (6, .int r241.1), (5, .int r229.1), (0, .ref b), (1, .ref (ad 0)), (2, .ref (ad 109)), (3, .ref (ad 125))]) hx hb dL_law_1526 hl (k := 6) rfl (by rw [show Int32.ofInt 6 = nI 6 from by decide, nI_add]) (by decide) rfl (fun ls hl => ?_)
            refine lv_goto (tgt := 23) hx hb dL_law_1529 (by decide) ?_
            cases h_e hM
            exact hk hw (lv_sub hl [3, 4, 5, 6, 0] rfl)
          · replace hM := h_f hc hM
            refine lv_iconst (v := (0 : Int32)) hx hb dL_law_272 (by decide) ?_
            exact absurd (congrArg Prod.fst (h_e hM)) (by simp)
      · replace hM := h_f hc hM
        refine lv_iconst (v := (0 : Int32)) hx hb dL_law_255 (by decide) ?_
        exact absurd (congrArg Prod.fst (h_e hM)) (by simp)
    · replace hM := h_f hc1 hM
      by_cases hc2 : (a0 &&& (31 : Int32)) = 2
      · replace hM := h_t hc2 hM
        refine lv_tableIn (tgt := 277) hx hb dL_law_40 (by rw [hc2]; decide) (by rw [hc2]; decide) (off := 237) (by rw [hc2]; decide) (by decide) ?_
        refine lv_aload_n hx hb dL_law_277 rfl (lv_at hl 1 rfl) ?_
        obtain ⟨r278, hr278, hM⟩ := h_b hM
        refine a_callV (σ' := aG r278.2) (v := (some (.int r278.1))) (As := fun ad => []) (rest := []) (o := 0) C hw (c_X6_fault l hr278) k_X6_fault wM_L_95 ⟨⟨rfl, rfl⟩, ⟨Nat.le_of_ble_eq_true rfl, Nat.le_of_ble_eq_true rfl⟩⟩ rfl (by decide) rfl rfl rfl hl rfl (Nat.le_of_ble_eq_true rfl) dL_law_278 ⟨Nat.le_trans (Nat.le_succ _) hcs.1, Nat.le_trans (Nat.le_add_right _ 6) hcs.2⟩ (fun H locs hw => ?_)
        refine lv_aload_n hx hb dL_law_281 rfl (lv_at hl 2 rfl) ?_
        obtain ⟨r282, hr282, hM⟩ := h_b hM
        refine a_callV (σ' := aG r282.2) (v := (some (.int r282.1))) (As := fun ad => []) (rest := [.int r278.1]) (o := 109) C hw (c_X7_fault l hr282) k_X7_fault wM_L_98 ⟨⟨rfl, rfl⟩, ⟨Nat.le_of_ble_eq_true rfl, Nat.le_of_ble_eq_true rfl⟩⟩ rfl (by decide) rfl rfl rfl hl rfl (Nat.le_of_ble_eq_true rfl) dL_law_282 ⟨Nat.le_trans (Nat.le_succ _) hcs.1, Nat.le_trans (Nat.le_add_right _ 6) hcs.2⟩ (fun H locs hw => ?_)
        refine lv_icmp_eq (tgt := 1526) hx hb dL_law_285 (by decide) (fun hc => ?_) (fun hc => ?_)
        · replace hM := h_t hc hM
          refine lv_iinc (v := nI (n + 6)) (lv' := [(4, .int (nI (n + 6))), (0, .ref b), (1, .ref (ad 0)), (2, .ref (ad 109)), (3, .ref (ad 125))]) hx hb dL_law_1526 hl (k := 4) rfl (by rw [show Int32.ofInt 6 = nI 6 from by decide, nI_add]) (by decide) rfl (fun ls hl => ?_)
          refine lv_goto (tgt := 23) hx hb dL_law_1529 (by decide) ?_
          cases h_e hM
          exact W.widen (Nat.le_succ _) (Nat.le_add_right _ 6) (hk hw (lv_sub hl [1, 2, 3, 4, 0] rfl))
        · replace hM := h_f hc hM
          refine lv_iconst (v := (0 : Int32)) hx hb dL_law_288 (by decide) ?_
          exact absurd (congrArg Prod.fst (h_e hM)) (by simp)
      · replace hM := h_f hc2 hM
        by_cases hc3 : (a0 &&& (31 : Int32)) = 3
        · replace hM := h_t hc3 hM
          refine lv_tableIn (tgt := 290) hx hb dL_law_40 (by rw [hc3]; decide) (by rw [hc3]; decide) (off := 250) (by rw [hc3]; decide) (by decide) ?_
          refine lv_aload_n hx hb dL_law_290 rfl (lv_at hl 1 rfl) ?_
          refine lv_aload_n hx hb dL_law_291 rfl (lv_at hl 0 rfl) ?_
          refine lv_iload hx hb dL_law_292 (lv_at hl 4 rfl) ?_
          refine lv_iconst (v := (1 : Int32)) hx hb dL_law_294 (by decide) ?_
          refine lv_iadd hx hb dL_law_295 ?_
          refine s_sld (n := n) (k := 1) C hw hX hbl hbA (nI_ad n 1) (by omega) hL h1 dL_law_296 ?_
          refine lv_aload_n hx hb dL_law_297 rfl (lv_at hl 3 rfl) ?_
          obtain ⟨r298, hr298, hM⟩ := h_b hM
          refine x_callW (σ' := aG r298.2) (v := (some (.int r298.1))) (as := fun ad => [.ref (ad 0), .int a1, .ref (ad 125)]) (rest := []) C hw (cw_show l hst hr298) kw_show wM_L_99 ⟨Nat.le_of_ble_eq_true rfl, Nat.le_of_ble_eq_true rfl⟩ rfl hl rfl (Nat.le_of_ble_eq_true rfl) dL_law_298 hcs (fun H locs hw => ?_)
          refine lv_istore (lv' := [(5, .int r298.1), (0, .ref b), (1, .ref (ad 0)), (2, .ref (ad 109)), (3, .ref (ad 125)), (4, .int (nI n))]) hx hb dL_law_301 hl (by decide) rfl (fun ls hl => ?_)
          refine lv_aload_n hx hb dL_law_303 rfl (lv_at hl 3 rfl) ?_
          refine lv_aload_n hx hb dL_law_304 rfl (lv_at hl 1 rfl) ?_
          refine lv_iload hx hb dL_law_305 (lv_at hl 5 rfl) ?_
          refine lv_iconst (v := (1 : Int32)) hx hb dL_law_307 (by decide) ?_
          refine lv_iadd hx hb dL_law_308 ?_
          refine s_sld (n := n) (k := 1) C hw hX hbl hbA (nI_ad n 1) (by omega) hL h1 dL_law_309 ?_
          obtain ⟨r310, hr310, hM⟩ := h_b hM
          refine a_callV (σ' := aG r310.2) (v := (some (.int r310.1))) (As := fun ad => [.int a1]) (rest := []) (o := 109) C hw (c_X7_show l hr310) k_X7_show wM_L_101 ⟨⟨rfl, rfl⟩, ⟨Nat.le_of_ble_eq_true rfl, Nat.le_of_ble_eq_true rfl⟩⟩ rfl (by decide) rfl rfl rfl hl rfl (Nat.le_of_ble_eq_true rfl) dL_law_310 hcs (fun H locs hw => ?_)
          refine lv_istore (lv' := [(6, .int r310.1), (5, .int r298.1), (0, .ref b), (1, .ref (ad 0)), (2, .ref (ad 109)), (3, .ref (ad 125)), (4, .int (nI n))]) hx hb dL_law_313 hl (by decide) rfl (fun ls hl => ?_)
          refine lv_aload_n hx hb dL_law_315 rfl (lv_at hl 4 rfl) ?_
          obtain ⟨r316, hr316, hM⟩ := h_b hM
          refine a_callV (σ' := aG r316.2) (v := (some (.int r316.1))) (As := fun ad => []) (rest := []) (o := 109) C hw (c_X7_thrown l hr316) k_X7_thrown wM_L_91 ⟨⟨rfl, rfl⟩, ⟨Nat.le_of_ble_eq_true rfl, Nat.le_of_ble_eq_true rfl⟩⟩ rfl (by decide) rfl rfl rfl hl rfl (Nat.le_of_ble_eq_true rfl) dL_law_316 hcs (fun H locs hw => ?_)
          refine lv_iload hx hb dL_law_319 (lv_at hl 1 rfl) ?_
          refine lv_icmp_eq (tgt := 326) hx hb dL_law_321 (by decide) (fun hc => ?_) (fun hc => ?_)
          · replace hM := h_t hc hM
            refine lv_iload hx hb dL_law_326 (lv_at hl 1 rfl) ?_
            refine lv_if_ne (tgt := 343) hx hb dL_law_328 (by decide) (fun hc => ?_) (fun hc => ?_)
            · replace hM := h_f hc hM
              refine lv_goto (tgt := 1526) hx hb dL_law_343 (by decide) ?_
              refine lv_iinc (v := nI (n + 6)) (lv' := [(4, .int (nI (n + 6))), (6, .int r310.1), (5, .int r298.1), (0, .ref b), (1, .ref (ad 0)), (2, .ref (ad 109)), (3, .ref (ad 125))]) hx hb dL_law_1526 hl (k := 6) rfl (by rw [show Int32.ofInt 6 = nI 6 from by decide, nI_add]) (by decide) rfl (fun ls hl => ?_)
              refine lv_goto (tgt := 23) hx hb dL_law_1529 (by decide) ?_
              cases h_e hM
              exact hk hw (lv_sub hl [3, 4, 5, 6, 0] rfl)
            · replace hM := h_t hc hM
              refine lv_aload_n hx hb dL_law_331 rfl (lv_at hl 5 rfl) ?_
              refine lv_iconst (v := (0 : Int32)) hx hb dL_law_332 (by decide) ?_
              refine a_lald (σ := aG r316.2) (o := 125) C hw rfl (aIn_v (by decide)) (show (0 : Int32).toNatClampNeg = 0 by decide) dL_law_333 ?_
              refine lv_iload hx hb dL_law_334 (lv_at hl 0 rfl) ?_
              refine lv_i2l hx hb dL_law_336 rfl ?_
              refine W.lcmp hx hb dL_law_337 ?_
              refine lv_if_eq (tgt := 343) hx hb dL_law_338 (by decide) (fun hc => ?_) (fun hc => ?_)
              · replace hM := h_t hc hM
                refine lv_goto (tgt := 1526) hx hb dL_law_343 (by decide) ?_
                refine lv_iinc (v := nI (n + 6)) (lv' := [(4, .int (nI (n + 6))), (6, .int r310.1), (5, .int r298.1), (0, .ref b), (1, .ref (ad 0)), (2, .ref (ad 109)), (3, .ref (ad 125))]) hx hb dL_law_1526 hl (k := 6) rfl (by rw [show Int32.ofInt 6 = nI 6 from by decide, nI_add]) (by decide) rfl (fun ls hl => ?_)
                refine lv_goto (tgt := 23) hx hb dL_law_1529 (by decide) ?_
                cases h_e hM
                exact hk hw (lv_sub hl [3, 4, 5, 6, 0] rfl)
              · replace hM := h_f hc hM
                refine lv_iconst (v := (0 : Int32)) hx hb dL_law_341 (by decide) ?_
                exact absurd (congrArg Prod.fst (h_e hM)) (by simp)
          · replace hM := h_f hc hM
            refine lv_iconst (v := (0 : Int32)) hx hb dL_law_324 (by decide) ?_
            exact absurd (congrArg Prod.fst (h_e hM)) (by simp)
        · replace hM := h_f hc3 hM
          by_cases hc4 : (a0 &&& (31 : Int32)) = 4
          · replace hM := h_t hc4 hM
            refine lv_tableIn (tgt := 346) hx hb dL_law_40 (by rw [hc4]; decide) (by rw [hc4]; decide) (off := 306) (by rw [hc4]; decide) (by decide) ?_
            refine lv_aload_n hx hb dL_law_346 rfl (lv_at hl 1 rfl) ?_
            refine lv_aload_n hx hb dL_law_347 rfl (lv_at hl 0 rfl) ?_
            refine lv_iload hx hb dL_law_348 (lv_at hl 4 rfl) ?_
            refine lv_iconst (v := (1 : Int32)) hx hb dL_law_350 (by decide) ?_
            refine lv_iadd hx hb dL_law_351 ?_
            refine s_sld (n := n) (k := 1) C hw hX hbl hbA (nI_ad n 1) (by omega) hL h1 dL_law_352 ?_
            refine lv_aload_n hx hb dL_law_353 rfl (lv_at hl 3 rfl) ?_
            obtain ⟨r354, hr354, hM⟩ := h_b hM
            refine x_callW (σ' := aG r354.2) (v := (some (.int r354.1))) (as := fun ad => [.ref (ad 0), .int a1, .ref (ad 125)]) (rest := []) C hw (cw_hide l hst hr354) kw_hide wM_L_102 ⟨Nat.le_of_ble_eq_true rfl, Nat.le_of_ble_eq_true rfl⟩ rfl hl rfl (Nat.le_of_ble_eq_true rfl) dL_law_354 hcs (fun H locs hw => ?_)
            refine lv_istore (lv' := [(5, .int r354.1), (0, .ref b), (1, .ref (ad 0)), (2, .ref (ad 109)), (3, .ref (ad 125)), (4, .int (nI n))]) hx hb dL_law_357 hl (by decide) rfl (fun ls hl => ?_)
            refine lv_aload_n hx hb dL_law_359 rfl (lv_at hl 3 rfl) ?_
            refine lv_aload_n hx hb dL_law_360 rfl (lv_at hl 1 rfl) ?_
            refine lv_iload hx hb dL_law_361 (lv_at hl 5 rfl) ?_
            refine lv_iconst (v := (1 : Int32)) hx hb dL_law_363 (by decide) ?_
            refine lv_iadd hx hb dL_law_364 ?_
            refine s_sld (n := n) (k := 1) C hw hX hbl hbA (nI_ad n 1) (by omega) hL h1 dL_law_365 ?_
            obtain ⟨r366, hr366, hM⟩ := h_b hM
            refine a_callV (σ' := aG r366.2) (v := (some (.int r366.1))) (As := fun ad => [.int a1]) (rest := []) (o := 109) C hw (c_X7_hide l hr366) k_X7_hide wM_L_104 ⟨⟨rfl, rfl⟩, ⟨Nat.le_of_ble_eq_true rfl, Nat.le_of_ble_eq_true rfl⟩⟩ rfl (by decide) rfl rfl rfl hl rfl (Nat.le_of_ble_eq_true rfl) dL_law_366 hcs (fun H locs hw => ?_)
            refine lv_istore (lv' := [(6, .int r366.1), (5, .int r354.1), (0, .ref b), (1, .ref (ad 0)), (2, .ref (ad 109)), (3, .ref (ad 125)), (4, .int (nI n))]) hx hb dL_law_369 hl (by decide) rfl (fun ls hl => ?_)
            refine lv_aload_n hx hb dL_law_371 rfl (lv_at hl 4 rfl) ?_
            obtain ⟨r372, hr372, hM⟩ := h_b hM
            refine a_callV (σ' := aG r372.2) (v := (some (.int r372.1))) (As := fun ad => []) (rest := []) (o := 109) C hw (c_X7_thrown l hr372) k_X7_thrown wM_L_91 ⟨⟨rfl, rfl⟩, ⟨Nat.le_of_ble_eq_true rfl, Nat.le_of_ble_eq_true rfl⟩⟩ rfl (by decide) rfl rfl rfl hl rfl (Nat.le_of_ble_eq_true rfl) dL_law_372 hcs (fun H locs hw => ?_)
            refine lv_iload hx hb dL_law_375 (lv_at hl 1 rfl) ?_
            refine lv_icmp_eq (tgt := 382) hx hb dL_law_377 (by decide) (fun hc => ?_) (fun hc => ?_)
            · replace hM := h_t hc hM
              refine lv_iload hx hb dL_law_382 (lv_at hl 1 rfl) ?_
              refine lv_if_ne (tgt := 399) hx hb dL_law_384 (by decide) (fun hc => ?_) (fun hc => ?_)
              · replace hM := h_f hc hM
                refine lv_goto (tgt := 1526) hx hb dL_law_399 (by decide) ?_
                refine lv_iinc (v := nI (n + 6)) (lv' := [(4, .int (nI (n + 6))), (6, .int r366.1), (5, .int r354.1), (0, .ref b), (1, .ref (ad 0)), (2, .ref (ad 109)), (3, .ref (ad 125))]) hx hb dL_law_1526 hl (k := 6) rfl (by rw [show Int32.ofInt 6 = nI 6 from by decide, nI_add]) (by decide) rfl (fun ls hl => ?_)
                refine lv_goto (tgt := 23) hx hb dL_law_1529 (by decide) ?_
                cases h_e hM
                exact hk hw (lv_sub hl [3, 4, 5, 6, 0] rfl)
              · replace hM := h_t hc hM
                refine lv_aload_n hx hb dL_law_387 rfl (lv_at hl 5 rfl) ?_
                refine lv_iconst (v := (0 : Int32)) hx hb dL_law_388 (by decide) ?_
                refine a_lald (σ := aG r372.2) (o := 125) C hw rfl (aIn_v (by decide)) (show (0 : Int32).toNatClampNeg = 0 by decide) dL_law_389 ?_
                refine lv_iload hx hb dL_law_390 (lv_at hl 0 rfl) ?_
                refine lv_i2l hx hb dL_law_392 rfl ?_
                refine W.lcmp hx hb dL_law_393 ?_
                refine lv_if_eq (tgt := 399) hx hb dL_law_394 (by decide) (fun hc => ?_) (fun hc => ?_)
                · replace hM := h_t hc hM
                  refine lv_goto (tgt := 1526) hx hb dL_law_399 (by decide) ?_
                  refine lv_iinc (v := nI (n + 6)) (lv' := [(4, .int (nI (n + 6))), (6, .int r366.1), (5, .int r354.1), (0, .ref b), (1, .ref (ad 0)), (2, .ref (ad 109)), (3, .ref (ad 125))]) hx hb dL_law_1526 hl (k := 6) rfl (by rw [show Int32.ofInt 6 = nI 6 from by decide, nI_add]) (by decide) rfl (fun ls hl => ?_)
                  refine lv_goto (tgt := 23) hx hb dL_law_1529 (by decide) ?_
                  cases h_e hM
                  exact hk hw (lv_sub hl [3, 4, 5, 6, 0] rfl)
                · replace hM := h_f hc hM
                  refine lv_iconst (v := (0 : Int32)) hx hb dL_law_397 (by decide) ?_
                  exact absurd (congrArg Prod.fst (h_e hM)) (by simp)
            · replace hM := h_f hc hM
              refine lv_iconst (v := (0 : Int32)) hx hb dL_law_380 (by decide) ?_
              exact absurd (congrArg Prod.fst (h_e hM)) (by simp)
          · replace hM := h_f hc4 hM
            by_cases hc5 : (a0 &&& (31 : Int32)) = 5
            · replace hM := h_t hc5 hM
              refine lv_tableIn (tgt := 402) hx hb dL_law_40 (by rw [hc5]; decide) (by rw [hc5]; decide) (off := 362) (by rw [hc5]; decide) (by decide) ?_
              refine lv_aload_n hx hb dL_law_402 rfl (lv_at hl 1 rfl) ?_
              refine lv_aload_n hx hb dL_law_403 rfl (lv_at hl 0 rfl) ?_
              refine lv_iload hx hb dL_law_404 (lv_at hl 4 rfl) ?_
              refine lv_iconst (v := (1 : Int32)) hx hb dL_law_406 (by decide) ?_
              refine lv_iadd hx hb dL_law_407 ?_
              refine s_sld (n := n) (k := 1) C hw hX hbl hbA (nI_ad n 1) (by omega) hL h1 dL_law_408 ?_
              refine lv_aload_n hx hb dL_law_409 rfl (lv_at hl 0 rfl) ?_
              refine lv_iload hx hb dL_law_410 (lv_at hl 4 rfl) ?_
              refine lv_iconst (v := (2 : Int32)) hx hb dL_law_412 (by decide) ?_
              refine lv_iadd hx hb dL_law_413 ?_
              refine s_sld (n := n) (k := 2) C hw hX hbl hbA (nI_ad n 2) (by omega) hL h2 dL_law_414 ?_
              refine lv_aload_n hx hb dL_law_415 rfl (lv_at hl 3 rfl) ?_
              obtain ⟨r416, hr416, hM⟩ := h_b hM
              refine x_callW (σ' := aG r416.2) (v := (some (.int r416.1))) (as := fun ad => [.ref (ad 0), .int a1, .int a2, .ref (ad 125)]) (rest := []) C hw (cw_change l hst hr416) kw_change wM_L_105 ⟨Nat.le_of_ble_eq_true rfl, Nat.le_of_ble_eq_true rfl⟩ rfl hl rfl (Nat.le_of_ble_eq_true rfl) dL_law_416 hcs (fun H locs hw => ?_)
              refine lv_istore (lv' := [(5, .int r416.1), (0, .ref b), (1, .ref (ad 0)), (2, .ref (ad 109)), (3, .ref (ad 125)), (4, .int (nI n))]) hx hb dL_law_419 hl (by decide) rfl (fun ls hl => ?_)
              refine lv_aload_n hx hb dL_law_421 rfl (lv_at hl 3 rfl) ?_
              refine lv_aload_n hx hb dL_law_422 rfl (lv_at hl 1 rfl) ?_
              refine lv_iload hx hb dL_law_423 (lv_at hl 5 rfl) ?_
              refine lv_iconst (v := (1 : Int32)) hx hb dL_law_425 (by decide) ?_
              refine lv_iadd hx hb dL_law_426 ?_
              refine s_sld (n := n) (k := 1) C hw hX hbl hbA (nI_ad n 1) (by omega) hL h1 dL_law_427 ?_
              refine lv_aload_n hx hb dL_law_428 rfl (lv_at hl 1 rfl) ?_
              refine lv_iload hx hb dL_law_429 (lv_at hl 5 rfl) ?_
              refine lv_iconst (v := (2 : Int32)) hx hb dL_law_431 (by decide) ?_
              refine lv_iadd hx hb dL_law_432 ?_
              refine s_sld (n := n) (k := 2) C hw hX hbl hbA (nI_ad n 2) (by omega) hL h2 dL_law_433 ?_
              obtain ⟨r434, hr434, hM⟩ := h_b hM
              refine a_callV (σ' := aG r434.2) (v := (some (.int r434.1))) (As := fun ad => [.int a1, .int a2]) (rest := []) (o := 109) C hw (c_X7_change l hr434) k_X7_change wM_L_108 ⟨⟨rfl, rfl⟩, ⟨Nat.le_of_ble_eq_true rfl, Nat.le_of_ble_eq_true rfl⟩⟩ rfl (by decide) rfl rfl rfl hl rfl (Nat.le_of_ble_eq_true rfl) dL_law_434 hcs (fun H locs hw => ?_)
              refine lv_istore (lv' := [(6, .int r434.1), (5, .int r416.1), (0, .ref b), (1, .ref (ad 0)), (2, .ref (ad 109)), (3, .ref (ad 125)), (4, .int (nI n))]) hx hb dL_law_437 hl (by decide) rfl (fun ls hl => ?_)
              refine lv_aload_n hx hb dL_law_439 rfl (lv_at hl 4 rfl) ?_
              obtain ⟨r440, hr440, hM⟩ := h_b hM
              refine a_callV (σ' := aG r440.2) (v := (some (.int r440.1))) (As := fun ad => []) (rest := []) (o := 109) C hw (c_X7_thrown l hr440) k_X7_thrown wM_L_91 ⟨⟨rfl, rfl⟩, ⟨Nat.le_of_ble_eq_true rfl, Nat.le_of_ble_eq_true rfl⟩⟩ rfl (by decide) rfl rfl rfl hl rfl (Nat.le_of_ble_eq_true rfl) dL_law_440 hcs (fun H locs hw => ?_)
              refine lv_iload hx hb dL_law_443 (lv_at hl 1 rfl) ?_
              refine lv_icmp_eq (tgt := 450) hx hb dL_law_445 (by decide) (fun hc => ?_) (fun hc => ?_)
              · replace hM := h_t hc hM
                refine lv_iload hx hb dL_law_450 (lv_at hl 1 rfl) ?_
                refine lv_if_ne (tgt := 467) hx hb dL_law_452 (by decide) (fun hc => ?_) (fun hc => ?_)
                · replace hM := h_f hc hM
                  refine lv_goto (tgt := 1526) hx hb dL_law_467 (by decide) ?_
                  refine lv_iinc (v := nI (n + 6)) (lv' := [(4, .int (nI (n + 6))), (6, .int r434.1), (5, .int r416.1), (0, .ref b), (1, .ref (ad 0)), (2, .ref (ad 109)), (3, .ref (ad 125))]) hx hb dL_law_1526 hl (k := 6) rfl (by rw [show Int32.ofInt 6 = nI 6 from by decide, nI_add]) (by decide) rfl (fun ls hl => ?_)
                  refine lv_goto (tgt := 23) hx hb dL_law_1529 (by decide) ?_
                  cases h_e hM
                  exact hk hw (lv_sub hl [3, 4, 5, 6, 0] rfl)
                · replace hM := h_t hc hM
                  refine lv_aload_n hx hb dL_law_455 rfl (lv_at hl 5 rfl) ?_
                  refine lv_iconst (v := (0 : Int32)) hx hb dL_law_456 (by decide) ?_
                  refine a_lald (σ := aG r440.2) (o := 125) C hw rfl (aIn_v (by decide)) (show (0 : Int32).toNatClampNeg = 0 by decide) dL_law_457 ?_
                  refine lv_iload hx hb dL_law_458 (lv_at hl 0 rfl) ?_
                  refine lv_i2l hx hb dL_law_460 rfl ?_
                  refine W.lcmp hx hb dL_law_461 ?_
                  refine lv_if_eq (tgt := 467) hx hb dL_law_462 (by decide) (fun hc => ?_) (fun hc => ?_)
                  · replace hM := h_t hc hM
                    refine lv_goto (tgt := 1526) hx hb dL_law_467 (by decide) ?_
                    refine lv_iinc (v := nI (n + 6)) (lv' := [(4, .int (nI (n + 6))), (6, .int r434.1), (5, .int r416.1), (0, .ref b), (1, .ref (ad 0)), (2, .ref (ad 109)), (3, .ref (ad 125))]) hx hb dL_law_1526 hl (k := 6) rfl (by rw [show Int32.ofInt 6 = nI 6 from by decide, nI_add]) (by decide) rfl (fun ls hl => ?_)
                    refine lv_goto (tgt := 23) hx hb dL_law_1529 (by decide) ?_
                    cases h_e hM
                    exact hk hw (lv_sub hl [3, 4, 5, 6, 0] rfl)
                  · replace hM := h_f hc hM
                    refine lv_iconst (v := (0 : Int32)) hx hb dL_law_465 (by decide) ?_
                    exact absurd (congrArg Prod.fst (h_e hM)) (by simp)
              · replace hM := h_f hc hM
                refine lv_iconst (v := (0 : Int32)) hx hb dL_law_448 (by decide) ?_
                exact absurd (congrArg Prod.fst (h_e hM)) (by simp)
            · replace hM := h_f hc5 hM
              by_cases hc6 : (a0 &&& (31 : Int32)) = 6
              · replace hM := h_t hc6 hM
                refine lv_tableIn (tgt := 470) hx hb dL_law_40 (by rw [hc6]; decide) (by rw [hc6]; decide) (off := 430) (by rw [hc6]; decide) (by decide) ?_
                refine lv_aload_n hx hb dL_law_470 rfl (lv_at hl 1 rfl) ?_
                refine lv_aload_n hx hb dL_law_471 rfl (lv_at hl 0 rfl) ?_
                refine lv_iload hx hb dL_law_472 (lv_at hl 4 rfl) ?_
                refine lv_iconst (v := (1 : Int32)) hx hb dL_law_474 (by decide) ?_
                refine lv_iadd hx hb dL_law_475 ?_
                refine s_sld (n := n) (k := 1) C hw hX hbl hbA (nI_ad n 1) (by omega) hL h1 dL_law_476 ?_
                refine lv_aload_n hx hb dL_law_477 rfl (lv_at hl 3 rfl) ?_
                obtain ⟨r478, hr478, hM⟩ := h_b hM
                refine x_callW (σ' := aG r478.2) (v := (some (.int r478.1))) (as := fun ad => [.ref (ad 0), .int a1, .ref (ad 125)]) (rest := []) C hw (cw_mock l hst hr478) kw_mock wM_L_109 ⟨Nat.le_of_ble_eq_true rfl, Nat.le_of_ble_eq_true rfl⟩ rfl hl rfl (Nat.le_of_ble_eq_true rfl) dL_law_478 hcs (fun H locs hw => ?_)
                refine lv_istore (lv' := [(5, .int r478.1), (0, .ref b), (1, .ref (ad 0)), (2, .ref (ad 109)), (3, .ref (ad 125)), (4, .int (nI n))]) hx hb dL_law_481 hl (by decide) rfl (fun ls hl => ?_)
                refine lv_aload_n hx hb dL_law_483 rfl (lv_at hl 3 rfl) ?_
                refine lv_aload_n hx hb dL_law_484 rfl (lv_at hl 1 rfl) ?_
                refine lv_iload hx hb dL_law_485 (lv_at hl 5 rfl) ?_
                refine lv_iconst (v := (1 : Int32)) hx hb dL_law_487 (by decide) ?_
                refine lv_iadd hx hb dL_law_488 ?_
                refine s_sld (n := n) (k := 1) C hw hX hbl hbA (nI_ad n 1) (by omega) hL h1 dL_law_489 ?_
                obtain ⟨r490, hr490, hM⟩ := h_b hM
                refine a_callV (σ' := aG r490.2) (v := (some (.int r490.1))) (As := fun ad => [.int a1]) (rest := []) (o := 109) C hw (c_X7_mock l hr490) k_X7_mock wM_L_111 ⟨⟨rfl, rfl⟩, ⟨Nat.le_of_ble_eq_true rfl, Nat.le_of_ble_eq_true rfl⟩⟩ rfl (by decide) rfl rfl rfl hl rfl (Nat.le_of_ble_eq_true rfl) dL_law_490 hcs (fun H locs hw => ?_)
                refine lv_istore (lv' := [(6, .int r490.1), (5, .int r478.1), (0, .ref b), (1, .ref (ad 0)), (2, .ref (ad 109)), (3, .ref (ad 125)), (4, .int (nI n))]) hx hb dL_law_493 hl (by decide) rfl (fun ls hl => ?_)
                refine lv_aload_n hx hb dL_law_495 rfl (lv_at hl 4 rfl) ?_
                obtain ⟨r496, hr496, hM⟩ := h_b hM
                refine a_callV (σ' := aG r496.2) (v := (some (.int r496.1))) (As := fun ad => []) (rest := []) (o := 109) C hw (c_X7_thrown l hr496) k_X7_thrown wM_L_91 ⟨⟨rfl, rfl⟩, ⟨Nat.le_of_ble_eq_true rfl, Nat.le_of_ble_eq_true rfl⟩⟩ rfl (by decide) rfl rfl rfl hl rfl (Nat.le_of_ble_eq_true rfl) dL_law_496 hcs (fun H locs hw => ?_)
                refine lv_iload hx hb dL_law_499 (lv_at hl 1 rfl) ?_
                refine lv_icmp_eq (tgt := 506) hx hb dL_law_501 (by decide) (fun hc => ?_) (fun hc => ?_)
                · replace hM := h_t hc hM
                  refine lv_iload hx hb dL_law_506 (lv_at hl 1 rfl) ?_
                  refine lv_if_ne (tgt := 523) hx hb dL_law_508 (by decide) (fun hc => ?_) (fun hc => ?_)
                  · replace hM := h_f hc hM
                    refine lv_goto (tgt := 1526) hx hb dL_law_523 (by decide) ?_
                    refine lv_iinc (v := nI (n + 6)) (lv' := [(4, .int (nI (n + 6))), (6, .int r490.1), (5, .int r478.1), (0, .ref b), (1, .ref (ad 0)), (2, .ref (ad 109)), (3, .ref (ad 125))]) hx hb dL_law_1526 hl (k := 6) rfl (by rw [show Int32.ofInt 6 = nI 6 from by decide, nI_add]) (by decide) rfl (fun ls hl => ?_)
                    refine lv_goto (tgt := 23) hx hb dL_law_1529 (by decide) ?_
                    cases h_e hM
                    exact hk hw (lv_sub hl [3, 4, 5, 6, 0] rfl)
                  · replace hM := h_t hc hM
                    refine lv_aload_n hx hb dL_law_511 rfl (lv_at hl 5 rfl) ?_
                    refine lv_iconst (v := (0 : Int32)) hx hb dL_law_512 (by decide) ?_
                    refine a_lald (σ := aG r496.2) (o := 125) C hw rfl (aIn_v (by decide)) (show (0 : Int32).toNatClampNeg = 0 by decide) dL_law_513 ?_
                    refine lv_iload hx hb dL_law_514 (lv_at hl 0 rfl) ?_
                    refine lv_i2l hx hb dL_law_516 rfl ?_
                    refine W.lcmp hx hb dL_law_517 ?_
                    refine lv_if_eq (tgt := 523) hx hb dL_law_518 (by decide) (fun hc => ?_) (fun hc => ?_)
                    · replace hM := h_t hc hM
                      refine lv_goto (tgt := 1526) hx hb dL_law_523 (by decide) ?_
                      refine lv_iinc (v := nI (n + 6)) (lv' := [(4, .int (nI (n + 6))), (6, .int r490.1), (5, .int r478.1), (0, .ref b), (1, .ref (ad 0)), (2, .ref (ad 109)), (3, .ref (ad 125))]) hx hb dL_law_1526 hl (k := 6) rfl (by rw [show Int32.ofInt 6 = nI 6 from by decide, nI_add]) (by decide) rfl (fun ls hl => ?_)
                      refine lv_goto (tgt := 23) hx hb dL_law_1529 (by decide) ?_
                      cases h_e hM
                      exact hk hw (lv_sub hl [3, 4, 5, 6, 0] rfl)
                    · replace hM := h_f hc hM
                      refine lv_iconst (v := (0 : Int32)) hx hb dL_law_521 (by decide) ?_
                      exact absurd (congrArg Prod.fst (h_e hM)) (by simp)
                · replace hM := h_f hc hM
                  refine lv_iconst (v := (0 : Int32)) hx hb dL_law_504 (by decide) ?_
                  exact absurd (congrArg Prod.fst (h_e hM)) (by simp)
              · replace hM := h_f hc6 hM
                by_cases hc7 : (a0 &&& (31 : Int32)) = 7
                · replace hM := h_t hc7 hM
                  refine lv_tableIn (tgt := 526) hx hb dL_law_40 (by rw [hc7]; decide) (by rw [hc7]; decide) (off := 486) (by rw [hc7]; decide) (by decide) ?_
                  refine lv_aload_n hx hb dL_law_526 rfl (lv_at hl 1 rfl) ?_
                  obtain ⟨r527, hr527, hM⟩ := h_b hM
                  refine a_callV (σ' := aG r527.2) (v := (some (.int r527.1))) (As := fun ad => []) (rest := []) (o := 0) C hw (c_X6_undo l hr527) k_X6_undo wM_L_112 ⟨⟨rfl, rfl⟩, ⟨Nat.le_of_ble_eq_true rfl, Nat.le_of_ble_eq_true rfl⟩⟩ rfl (by decide) rfl rfl rfl hl rfl (Nat.le_of_ble_eq_true rfl) dL_law_527 ⟨Nat.le_trans (Nat.le_succ _) hcs.1, Nat.le_trans (Nat.le_add_right _ 6) hcs.2⟩ (fun H locs hw => ?_)
                  refine lv_aload_n hx hb dL_law_530 rfl (lv_at hl 2 rfl) ?_
                  obtain ⟨r531, hr531, hM⟩ := h_b hM
                  refine a_callV (σ' := aG r531.2) (v := (some (.int r531.1))) (As := fun ad => []) (rest := [.int r527.1]) (o := 109) C hw (c_X7_undo l hr531) k_X7_undo wM_L_115 ⟨⟨rfl, rfl⟩, ⟨Nat.le_of_ble_eq_true rfl, Nat.le_of_ble_eq_true rfl⟩⟩ rfl (by decide) rfl rfl rfl hl rfl (Nat.le_of_ble_eq_true rfl) dL_law_531 ⟨Nat.le_trans (Nat.le_succ _) hcs.1, Nat.le_trans (Nat.le_add_right _ 6) hcs.2⟩ (fun H locs hw => ?_)
                  refine lv_icmp_eq (tgt := 1526) hx hb dL_law_534 (by decide) (fun hc => ?_) (fun hc => ?_)
                  · replace hM := h_t hc hM
                    refine lv_iinc (v := nI (n + 6)) (lv' := [(4, .int (nI (n + 6))), (0, .ref b), (1, .ref (ad 0)), (2, .ref (ad 109)), (3, .ref (ad 125))]) hx hb dL_law_1526 hl (k := 4) rfl (by rw [show Int32.ofInt 6 = nI 6 from by decide, nI_add]) (by decide) rfl (fun ls hl => ?_)
                    refine lv_goto (tgt := 23) hx hb dL_law_1529 (by decide) ?_
                    cases h_e hM
                    exact W.widen (Nat.le_succ _) (Nat.le_add_right _ 6) (hk hw (lv_sub hl [1, 2, 3, 4, 0] rfl))
                  · replace hM := h_f hc hM
                    refine lv_iconst (v := (0 : Int32)) hx hb dL_law_537 (by decide) ?_
                    exact absurd (congrArg Prod.fst (h_e hM)) (by simp)
                · replace hM := h_f hc7 hM
                  by_cases hc8 : (a0 &&& (31 : Int32)) = 8
                  · replace hM := h_t hc8 hM
                    refine lv_tableIn (tgt := 539) hx hb dL_law_40 (by rw [hc8]; decide) (by rw [hc8]; decide) (off := 499) (by rw [hc8]; decide) (by decide) ?_
                    refine lv_aload_n hx hb dL_law_539 rfl (lv_at hl 1 rfl) ?_
                    refine lv_aload_n hx hb dL_law_540 rfl (lv_at hl 0 rfl) ?_
                    refine lv_iload hx hb dL_law_541 (lv_at hl 4 rfl) ?_
                    refine lv_iconst (v := (1 : Int32)) hx hb dL_law_543 (by decide) ?_
                    refine lv_iadd hx hb dL_law_544 ?_
                    refine s_sld (n := n) (k := 1) C hw hX hbl hbA (nI_ad n 1) (by omega) hL h1 dL_law_545 ?_
                    refine lv_aload_n hx hb dL_law_546 rfl (lv_at hl 3 rfl) ?_
                    obtain ⟨r547, hr547, hM⟩ := h_b hM
                    refine x_callW (σ' := aG r547.2) (v := (some (.int r547.1))) (as := fun ad => [.ref (ad 0), .int a1, .ref (ad 125)]) (rest := []) C hw (cw_told l hst hr547) kw_told wM_L_116 ⟨Nat.le_of_ble_eq_true rfl, Nat.le_of_ble_eq_true rfl⟩ rfl hl rfl (Nat.le_of_ble_eq_true rfl) dL_law_547 hcs (fun H locs hw => ?_)
                    refine lv_istore (lv' := [(5, .int r547.1), (0, .ref b), (1, .ref (ad 0)), (2, .ref (ad 109)), (3, .ref (ad 125)), (4, .int (nI n))]) hx hb dL_law_550 hl (by decide) rfl (fun ls hl => ?_)
                    refine lv_aload_n hx hb dL_law_552 rfl (lv_at hl 3 rfl) ?_
                    refine lv_aload_n hx hb dL_law_553 rfl (lv_at hl 1 rfl) ?_
                    refine lv_iload hx hb dL_law_554 (lv_at hl 5 rfl) ?_
                    refine lv_iconst (v := (1 : Int32)) hx hb dL_law_556 (by decide) ?_
                    refine lv_iadd hx hb dL_law_557 ?_
                    refine s_sld (n := n) (k := 1) C hw hX hbl hbA (nI_ad n 1) (by omega) hL h1 dL_law_558 ?_
                    obtain ⟨r559, hr559, hM⟩ := h_b hM
                    refine a_callV (σ' := aG r559.2) (v := (some (.int r559.1))) (As := fun ad => [.int a1]) (rest := []) (o := 109) C hw (c_X7_told l hr559) k_X7_told wM_L_118 ⟨⟨rfl, rfl⟩, ⟨Nat.le_of_ble_eq_true rfl, Nat.le_of_ble_eq_true rfl⟩⟩ rfl (by decide) rfl rfl rfl hl rfl (Nat.le_of_ble_eq_true rfl) dL_law_559 hcs (fun H locs hw => ?_)
                    refine lv_istore (lv' := [(6, .int r559.1), (5, .int r547.1), (0, .ref b), (1, .ref (ad 0)), (2, .ref (ad 109)), (3, .ref (ad 125)), (4, .int (nI n))]) hx hb dL_law_562 hl (by decide) rfl (fun ls hl => ?_)
                    refine lv_aload_n hx hb dL_law_564 rfl (lv_at hl 4 rfl) ?_
                    obtain ⟨r565, hr565, hM⟩ := h_b hM
                    refine a_callV (σ' := aG r565.2) (v := (some (.int r565.1))) (As := fun ad => []) (rest := []) (o := 109) C hw (c_X7_thrown l hr565) k_X7_thrown wM_L_91 ⟨⟨rfl, rfl⟩, ⟨Nat.le_of_ble_eq_true rfl, Nat.le_of_ble_eq_true rfl⟩⟩ rfl (by decide) rfl rfl rfl hl rfl (Nat.le_of_ble_eq_true rfl) dL_law_565 hcs (fun H locs hw => ?_)
                    refine lv_iload hx hb dL_law_568 (lv_at hl 1 rfl) ?_
                    refine lv_icmp_eq (tgt := 575) hx hb dL_law_570 (by decide) (fun hc => ?_) (fun hc => ?_)
                    · replace hM := h_t hc hM
                      refine lv_iload hx hb dL_law_575 (lv_at hl 1 rfl) ?_
                      refine lv_if_ne (tgt := 592) hx hb dL_law_577 (by decide) (fun hc => ?_) (fun hc => ?_)
                      · replace hM := h_f hc hM
                        refine lv_goto (tgt := 1526) hx hb dL_law_592 (by decide) ?_
                        refine lv_iinc (v := nI (n + 6)) (lv' := [(4, .int (nI (n + 6))), (6, .int r559.1), (5, .int r547.1), (0, .ref b), (1, .ref (ad 0)), (2, .ref (ad 109)), (3, .ref (ad 125))]) hx hb dL_law_1526 hl (k := 6) rfl (by rw [show Int32.ofInt 6 = nI 6 from by decide, nI_add]) (by decide) rfl (fun ls hl => ?_)
                        refine lv_goto (tgt := 23) hx hb dL_law_1529 (by decide) ?_
                        cases h_e hM
                        exact hk hw (lv_sub hl [3, 4, 5, 6, 0] rfl)
                      · replace hM := h_t hc hM
                        refine lv_aload_n hx hb dL_law_580 rfl (lv_at hl 5 rfl) ?_
                        refine lv_iconst (v := (0 : Int32)) hx hb dL_law_581 (by decide) ?_
                        refine a_lald (σ := aG r565.2) (o := 125) C hw rfl (aIn_v (by decide)) (show (0 : Int32).toNatClampNeg = 0 by decide) dL_law_582 ?_
                        refine lv_iload hx hb dL_law_583 (lv_at hl 0 rfl) ?_
                        refine lv_i2l hx hb dL_law_585 rfl ?_
                        refine W.lcmp hx hb dL_law_586 ?_
                        refine lv_if_eq (tgt := 592) hx hb dL_law_587 (by decide) (fun hc => ?_) (fun hc => ?_)
                        · replace hM := h_t hc hM
                          refine lv_goto (tgt := 1526) hx hb dL_law_592 (by decide) ?_
                          refine lv_iinc (v := nI (n + 6)) (lv' := [(4, .int (nI (n + 6))), (6, .int r559.1), (5, .int r547.1), (0, .ref b), (1, .ref (ad 0)), (2, .ref (ad 109)), (3, .ref (ad 125))]) hx hb dL_law_1526 hl (k := 6) rfl (by rw [show Int32.ofInt 6 = nI 6 from by decide, nI_add]) (by decide) rfl (fun ls hl => ?_)
                          refine lv_goto (tgt := 23) hx hb dL_law_1529 (by decide) ?_
                          cases h_e hM
                          exact hk hw (lv_sub hl [3, 4, 5, 6, 0] rfl)
                        · replace hM := h_f hc hM
                          refine lv_iconst (v := (0 : Int32)) hx hb dL_law_590 (by decide) ?_
                          exact absurd (congrArg Prod.fst (h_e hM)) (by simp)
                    · replace hM := h_f hc hM
                      refine lv_iconst (v := (0 : Int32)) hx hb dL_law_573 (by decide) ?_
                      exact absurd (congrArg Prod.fst (h_e hM)) (by simp)
                  · replace hM := h_f hc8 hM
                    by_cases hc9 : (a0 &&& (31 : Int32)) = 9
                    · replace hM := h_t hc9 hM
                      refine lv_tableIn (tgt := 595) hx hb dL_law_40 (by rw [hc9]; decide) (by rw [hc9]; decide) (off := 555) (by rw [hc9]; decide) (by decide) ?_
                      refine lv_aload_n hx hb dL_law_595 rfl (lv_at hl 1 rfl) ?_
                      refine lv_aload_n hx hb dL_law_596 rfl (lv_at hl 0 rfl) ?_
                      refine lv_iload hx hb dL_law_597 (lv_at hl 4 rfl) ?_
                      refine lv_iconst (v := (1 : Int32)) hx hb dL_law_599 (by decide) ?_
                      refine lv_iadd hx hb dL_law_600 ?_
                      refine s_sld (n := n) (k := 1) C hw hX hbl hbA (nI_ad n 1) (by omega) hL h1 dL_law_601 ?_
                      refine lv_aload_n hx hb dL_law_602 rfl (lv_at hl 0 rfl) ?_
                      refine lv_iload hx hb dL_law_603 (lv_at hl 4 rfl) ?_
                      refine lv_iconst (v := (2 : Int32)) hx hb dL_law_605 (by decide) ?_
                      refine lv_iadd hx hb dL_law_606 ?_
                      refine s_sld (n := n) (k := 2) C hw hX hbl hbA (nI_ad n 2) (by omega) hL h2 dL_law_607 ?_
                      refine lv_aload_n hx hb dL_law_608 rfl (lv_at hl 3 rfl) ?_
                      obtain ⟨r609, hr609, hM⟩ := h_b hM
                      refine x_callW (σ' := aG r609.2) (v := (some (.int r609.1))) (as := fun ad => [.ref (ad 0), .int a1, .int a2, .ref (ad 125)]) (rest := []) C hw (cw_trait l hst hr609) kw_trait wM_L_119 ⟨Nat.le_of_ble_eq_true rfl, Nat.le_of_ble_eq_true rfl⟩ rfl hl rfl (Nat.le_of_ble_eq_true rfl) dL_law_609 hcs (fun H locs hw => ?_)
                      refine lv_istore (lv' := [(5, .int r609.1), (0, .ref b), (1, .ref (ad 0)), (2, .ref (ad 109)), (3, .ref (ad 125)), (4, .int (nI n))]) hx hb dL_law_612 hl (by decide) rfl (fun ls hl => ?_)
                      refine lv_aload_n hx hb dL_law_614 rfl (lv_at hl 3 rfl) ?_
                      refine lv_aload_n hx hb dL_law_615 rfl (lv_at hl 1 rfl) ?_
                      refine lv_iload hx hb dL_law_616 (lv_at hl 5 rfl) ?_
                      refine lv_iconst (v := (1 : Int32)) hx hb dL_law_618 (by decide) ?_
                      refine lv_iadd hx hb dL_law_619 ?_
                      refine s_sld (n := n) (k := 1) C hw hX hbl hbA (nI_ad n 1) (by omega) hL h1 dL_law_620 ?_
                      refine lv_aload_n hx hb dL_law_621 rfl (lv_at hl 1 rfl) ?_
                      refine lv_iload hx hb dL_law_622 (lv_at hl 5 rfl) ?_
                      refine lv_iconst (v := (2 : Int32)) hx hb dL_law_624 (by decide) ?_
                      refine lv_iadd hx hb dL_law_625 ?_
                      refine s_sld (n := n) (k := 2) C hw hX hbl hbA (nI_ad n 2) (by omega) hL h2 dL_law_626 ?_
                      obtain ⟨r627, hr627, hM⟩ := h_b hM
                      refine a_callV (σ' := aG r627.2) (v := (some (.int r627.1))) (As := fun ad => [.int a1, .int a2]) (rest := []) (o := 109) C hw (c_X7_trait l hr627) k_X7_trait wM_L_121 ⟨⟨rfl, rfl⟩, ⟨Nat.le_of_ble_eq_true rfl, Nat.le_of_ble_eq_true rfl⟩⟩ rfl (by decide) rfl rfl rfl hl rfl (Nat.le_of_ble_eq_true rfl) dL_law_627 hcs (fun H locs hw => ?_)
                      refine lv_istore (lv' := [(6, .int r627.1), (5, .int r609.1), (0, .ref b), (1, .ref (ad 0)), (2, .ref (ad 109)), (3, .ref (ad 125)), (4, .int (nI n))]) hx hb dL_law_630 hl (by decide) rfl (fun ls hl => ?_)
                      refine lv_aload_n hx hb dL_law_632 rfl (lv_at hl 4 rfl) ?_
                      obtain ⟨r633, hr633, hM⟩ := h_b hM
                      refine a_callV (σ' := aG r633.2) (v := (some (.int r633.1))) (As := fun ad => []) (rest := []) (o := 109) C hw (c_X7_thrown l hr633) k_X7_thrown wM_L_91 ⟨⟨rfl, rfl⟩, ⟨Nat.le_of_ble_eq_true rfl, Nat.le_of_ble_eq_true rfl⟩⟩ rfl (by decide) rfl rfl rfl hl rfl (Nat.le_of_ble_eq_true rfl) dL_law_633 hcs (fun H locs hw => ?_)
                      refine lv_iload hx hb dL_law_636 (lv_at hl 1 rfl) ?_
                      refine lv_icmp_eq (tgt := 643) hx hb dL_law_638 (by decide) (fun hc => ?_) (fun hc => ?_)
                      · replace hM := h_t hc hM
                        refine lv_iload hx hb dL_law_643 (lv_at hl 1 rfl) ?_
                        refine lv_if_ne (tgt := 660) hx hb dL_law_645 (by decide) (fun hc => ?_) (fun hc => ?_)
                        · replace hM := h_f hc hM
                          refine lv_goto (tgt := 1526) hx hb dL_law_660 (by decide) ?_
                          refine lv_iinc (v := nI (n + 6)) (lv' := [(4, .int (nI (n + 6))), (6, .int r627.1), (5, .int r609.1), (0, .ref b), (1, .ref (ad 0)), (2, .ref (ad 109)), (3, .ref (ad 125))]) hx hb dL_law_1526 hl (k := 6) rfl (by rw [show Int32.ofInt 6 = nI 6 from by decide, nI_add]) (by decide) rfl (fun ls hl => ?_)
                          refine lv_goto (tgt := 23) hx hb dL_law_1529 (by decide) ?_
                          cases h_e hM
                          exact hk hw (lv_sub hl [3, 4, 5, 6, 0] rfl)
                        · replace hM := h_t hc hM
                          refine lv_aload_n hx hb dL_law_648 rfl (lv_at hl 5 rfl) ?_
                          refine lv_iconst (v := (0 : Int32)) hx hb dL_law_649 (by decide) ?_
                          refine a_lald (σ := aG r633.2) (o := 125) C hw rfl (aIn_v (by decide)) (show (0 : Int32).toNatClampNeg = 0 by decide) dL_law_650 ?_
                          refine lv_iload hx hb dL_law_651 (lv_at hl 0 rfl) ?_
                          refine lv_i2l hx hb dL_law_653 rfl ?_
                          refine W.lcmp hx hb dL_law_654 ?_
                          refine lv_if_eq (tgt := 660) hx hb dL_law_655 (by decide) (fun hc => ?_) (fun hc => ?_)
                          · replace hM := h_t hc hM
                            refine lv_goto (tgt := 1526) hx hb dL_law_660 (by decide) ?_
                            refine lv_iinc (v := nI (n + 6)) (lv' := [(4, .int (nI (n + 6))), (6, .int r627.1), (5, .int r609.1), (0, .ref b), (1, .ref (ad 0)), (2, .ref (ad 109)), (3, .ref (ad 125))]) hx hb dL_law_1526 hl (k := 6) rfl (by rw [show Int32.ofInt 6 = nI 6 from by decide, nI_add]) (by decide) rfl (fun ls hl => ?_)
                            refine lv_goto (tgt := 23) hx hb dL_law_1529 (by decide) ?_
                            cases h_e hM
                            exact hk hw (lv_sub hl [3, 4, 5, 6, 0] rfl)
                          · replace hM := h_f hc hM
                            refine lv_iconst (v := (0 : Int32)) hx hb dL_law_658 (by decide) ?_
                            exact absurd (congrArg Prod.fst (h_e hM)) (by simp)
                      · replace hM := h_f hc hM
                        refine lv_iconst (v := (0 : Int32)) hx hb dL_law_641 (by decide) ?_
                        exact absurd (congrArg Prod.fst (h_e hM)) (by simp)
                    · replace hM := h_f hc9 hM
                      by_cases hc10 : (a0 &&& (31 : Int32)) = 10
                      · replace hM := h_t hc10 hM
                        refine lv_tableIn (tgt := 663) hx hb dL_law_40 (by rw [hc10]; decide) (by rw [hc10]; decide) (off := 623) (by rw [hc10]; decide) (by decide) ?_
                        refine lv_aload_n hx hb dL_law_663 rfl (lv_at hl 1 rfl) ?_
                        refine lv_aload_n hx hb dL_law_664 rfl (lv_at hl 0 rfl) ?_
                        refine lv_iload hx hb dL_law_665 (lv_at hl 4 rfl) ?_
                        refine lv_iconst (v := (1 : Int32)) hx hb dL_law_667 (by decide) ?_
                        refine lv_iadd hx hb dL_law_668 ?_
                        refine s_sld (n := n) (k := 1) C hw hX hbl hbA (nI_ad n 1) (by omega) hL h1 dL_law_669 ?_
                        refine lv_aload_n hx hb dL_law_670 rfl (lv_at hl 0 rfl) ?_
                        refine lv_iload hx hb dL_law_671 (lv_at hl 4 rfl) ?_
                        refine lv_iconst (v := (2 : Int32)) hx hb dL_law_673 (by decide) ?_
                        refine lv_iadd hx hb dL_law_674 ?_
                        refine s_sld (n := n) (k := 2) C hw hX hbl hbA (nI_ad n 2) (by omega) hL h2 dL_law_675 ?_
                        refine lv_aload_n hx hb dL_law_676 rfl (lv_at hl 3 rfl) ?_
                        obtain ⟨r677, hr677, hM⟩ := h_b hM
                        refine x_callW (σ' := aG r677.2) (v := (some (.int r677.1))) (as := fun ad => [.ref (ad 0), .int a1, .int a2, .ref (ad 125)]) (rest := []) C hw (cw_value l hst hr677) kw_value wM_L_122 ⟨Nat.le_of_ble_eq_true rfl, Nat.le_of_ble_eq_true rfl⟩ rfl hl rfl (Nat.le_of_ble_eq_true rfl) dL_law_677 hcs (fun H locs hw => ?_)
                        refine lv_istore (lv' := [(5, .int r677.1), (0, .ref b), (1, .ref (ad 0)), (2, .ref (ad 109)), (3, .ref (ad 125)), (4, .int (nI n))]) hx hb dL_law_680 hl (by decide) rfl (fun ls hl => ?_)
                        refine lv_aload_n hx hb dL_law_682 rfl (lv_at hl 3 rfl) ?_
                        refine lv_aload_n hx hb dL_law_683 rfl (lv_at hl 1 rfl) ?_
                        refine lv_iload hx hb dL_law_684 (lv_at hl 5 rfl) ?_
                        refine lv_iconst (v := (1 : Int32)) hx hb dL_law_686 (by decide) ?_
                        refine lv_iadd hx hb dL_law_687 ?_
                        refine s_sld (n := n) (k := 1) C hw hX hbl hbA (nI_ad n 1) (by omega) hL h1 dL_law_688 ?_
                        refine lv_aload_n hx hb dL_law_689 rfl (lv_at hl 1 rfl) ?_
                        refine lv_iload hx hb dL_law_690 (lv_at hl 5 rfl) ?_
                        refine lv_iconst (v := (2 : Int32)) hx hb dL_law_692 (by decide) ?_
                        refine lv_iadd hx hb dL_law_693 ?_
                        refine s_sld (n := n) (k := 2) C hw hX hbl hbA (nI_ad n 2) (by omega) hL h2 dL_law_694 ?_
                        obtain ⟨r695, hr695, hM⟩ := h_b hM
                        refine a_callV (σ' := aG r695.2) (v := (some (.int r695.1))) (As := fun ad => [.int a1, .int a2]) (rest := []) (o := 109) C hw (c_X7_value l hr695) k_X7_value wM_L_124 ⟨⟨rfl, rfl⟩, ⟨Nat.le_of_ble_eq_true rfl, Nat.le_of_ble_eq_true rfl⟩⟩ rfl (by decide) rfl rfl rfl hl rfl (Nat.le_of_ble_eq_true rfl) dL_law_695 hcs (fun H locs hw => ?_)
                        refine lv_istore (lv' := [(6, .int r695.1), (5, .int r677.1), (0, .ref b), (1, .ref (ad 0)), (2, .ref (ad 109)), (3, .ref (ad 125)), (4, .int (nI n))]) hx hb dL_law_698 hl (by decide) rfl (fun ls hl => ?_)
                        refine lv_aload_n hx hb dL_law_700 rfl (lv_at hl 4 rfl) ?_
                        obtain ⟨r701, hr701, hM⟩ := h_b hM
                        refine a_callV (σ' := aG r701.2) (v := (some (.int r701.1))) (As := fun ad => []) (rest := []) (o := 109) C hw (c_X7_thrown l hr701) k_X7_thrown wM_L_91 ⟨⟨rfl, rfl⟩, ⟨Nat.le_of_ble_eq_true rfl, Nat.le_of_ble_eq_true rfl⟩⟩ rfl (by decide) rfl rfl rfl hl rfl (Nat.le_of_ble_eq_true rfl) dL_law_701 hcs (fun H locs hw => ?_)
                        refine lv_iload hx hb dL_law_704 (lv_at hl 1 rfl) ?_
                        refine lv_icmp_eq (tgt := 711) hx hb dL_law_706 (by decide) (fun hc => ?_) (fun hc => ?_)
                        · replace hM := h_t hc hM
                          refine lv_iload hx hb dL_law_711 (lv_at hl 1 rfl) ?_
                          refine lv_if_ne (tgt := 728) hx hb dL_law_713 (by decide) (fun hc => ?_) (fun hc => ?_)
                          · replace hM := h_f hc hM
                            refine lv_goto (tgt := 1526) hx hb dL_law_728 (by decide) ?_
                            refine lv_iinc (v := nI (n + 6)) (lv' := [(4, .int (nI (n + 6))), (6, .int r695.1), (5, .int r677.1), (0, .ref b), (1, .ref (ad 0)), (2, .ref (ad 109)), (3, .ref (ad 125))]) hx hb dL_law_1526 hl (k := 6) rfl (by rw [show Int32.ofInt 6 = nI 6 from by decide, nI_add]) (by decide) rfl (fun ls hl => ?_)
                            refine lv_goto (tgt := 23) hx hb dL_law_1529 (by decide) ?_
                            cases h_e hM
                            exact hk hw (lv_sub hl [3, 4, 5, 6, 0] rfl)
                          · replace hM := h_t hc hM
                            refine lv_aload_n hx hb dL_law_716 rfl (lv_at hl 5 rfl) ?_
                            refine lv_iconst (v := (0 : Int32)) hx hb dL_law_717 (by decide) ?_
                            refine a_lald (σ := aG r701.2) (o := 125) C hw rfl (aIn_v (by decide)) (show (0 : Int32).toNatClampNeg = 0 by decide) dL_law_718 ?_
                            refine lv_iload hx hb dL_law_719 (lv_at hl 0 rfl) ?_
                            refine lv_i2l hx hb dL_law_721 rfl ?_
                            refine W.lcmp hx hb dL_law_722 ?_
                            refine lv_if_eq (tgt := 728) hx hb dL_law_723 (by decide) (fun hc => ?_) (fun hc => ?_)
                            · replace hM := h_t hc hM
                              refine lv_goto (tgt := 1526) hx hb dL_law_728 (by decide) ?_
                              refine lv_iinc (v := nI (n + 6)) (lv' := [(4, .int (nI (n + 6))), (6, .int r695.1), (5, .int r677.1), (0, .ref b), (1, .ref (ad 0)), (2, .ref (ad 109)), (3, .ref (ad 125))]) hx hb dL_law_1526 hl (k := 6) rfl (by rw [show Int32.ofInt 6 = nI 6 from by decide, nI_add]) (by decide) rfl (fun ls hl => ?_)
                              refine lv_goto (tgt := 23) hx hb dL_law_1529 (by decide) ?_
                              cases h_e hM
                              exact hk hw (lv_sub hl [3, 4, 5, 6, 0] rfl)
                            · replace hM := h_f hc hM
                              refine lv_iconst (v := (0 : Int32)) hx hb dL_law_726 (by decide) ?_
                              exact absurd (congrArg Prod.fst (h_e hM)) (by simp)
                        · replace hM := h_f hc hM
                          refine lv_iconst (v := (0 : Int32)) hx hb dL_law_709 (by decide) ?_
                          exact absurd (congrArg Prod.fst (h_e hM)) (by simp)
                      · replace hM := h_f hc10 hM
                        by_cases hc11 : (a0 &&& (31 : Int32)) = 11
                        · replace hM := h_t hc11 hM
                          refine lv_tableIn (tgt := 731) hx hb dL_law_40 (by rw [hc11]; decide) (by rw [hc11]; decide) (off := 691) (by rw [hc11]; decide) (by decide) ?_
                          refine lv_aload_n hx hb dL_law_731 rfl (lv_at hl 1 rfl) ?_
                          refine lv_aload_n hx hb dL_law_732 rfl (lv_at hl 0 rfl) ?_
                          refine lv_iload hx hb dL_law_733 (lv_at hl 4 rfl) ?_
                          refine lv_iconst (v := (1 : Int32)) hx hb dL_law_735 (by decide) ?_
                          refine lv_iadd hx hb dL_law_736 ?_
                          refine s_sld (n := n) (k := 1) C hw hX hbl hbA (nI_ad n 1) (by omega) hL h1 dL_law_737 ?_
                          refine lv_aload_n hx hb dL_law_738 rfl (lv_at hl 3 rfl) ?_
                          obtain ⟨r739, hr739, hM⟩ := h_b hM
                          refine x_callW (σ' := aG r739.2) (v := (some (.int r739.1))) (as := fun ad => [.ref (ad 0), .int a1, .ref (ad 125)]) (rest := []) C hw (cw_shown l hst hr739) kw_shown wM_L_125 ⟨Nat.le_of_ble_eq_true rfl, Nat.le_of_ble_eq_true rfl⟩ rfl hl rfl (Nat.le_of_ble_eq_true rfl) dL_law_739 hcs (fun H locs hw => ?_)
                          refine lv_istore (lv' := [(5, .int r739.1), (0, .ref b), (1, .ref (ad 0)), (2, .ref (ad 109)), (3, .ref (ad 125)), (4, .int (nI n))]) hx hb dL_law_742 hl (by decide) rfl (fun ls hl => ?_)
                          refine lv_aload_n hx hb dL_law_744 rfl (lv_at hl 3 rfl) ?_
                          refine lv_aload_n hx hb dL_law_745 rfl (lv_at hl 1 rfl) ?_
                          refine lv_iload hx hb dL_law_746 (lv_at hl 5 rfl) ?_
                          refine lv_iconst (v := (1 : Int32)) hx hb dL_law_748 (by decide) ?_
                          refine lv_iadd hx hb dL_law_749 ?_
                          refine s_sld (n := n) (k := 1) C hw hX hbl hbA (nI_ad n 1) (by omega) hL h1 dL_law_750 ?_
                          obtain ⟨r751, hr751, hM⟩ := h_b hM
                          refine a_callV (σ' := aG r751.2) (v := (some (.int r751.1))) (As := fun ad => [.int a1]) (rest := []) (o := 109) C hw (c_X7_shown l hr751) k_X7_shown wM_L_127 ⟨⟨rfl, rfl⟩, ⟨Nat.le_of_ble_eq_true rfl, Nat.le_of_ble_eq_true rfl⟩⟩ rfl (by decide) rfl rfl rfl hl rfl (Nat.le_of_ble_eq_true rfl) dL_law_751 hcs (fun H locs hw => ?_)
                          refine lv_istore (lv' := [(6, .int r751.1), (5, .int r739.1), (0, .ref b), (1, .ref (ad 0)), (2, .ref (ad 109)), (3, .ref (ad 125)), (4, .int (nI n))]) hx hb dL_law_754 hl (by decide) rfl (fun ls hl => ?_)
                          refine lv_aload_n hx hb dL_law_756 rfl (lv_at hl 4 rfl) ?_
                          obtain ⟨r757, hr757, hM⟩ := h_b hM
                          refine a_callV (σ' := aG r757.2) (v := (some (.int r757.1))) (As := fun ad => []) (rest := []) (o := 109) C hw (c_X7_thrown l hr757) k_X7_thrown wM_L_91 ⟨⟨rfl, rfl⟩, ⟨Nat.le_of_ble_eq_true rfl, Nat.le_of_ble_eq_true rfl⟩⟩ rfl (by decide) rfl rfl rfl hl rfl (Nat.le_of_ble_eq_true rfl) dL_law_757 hcs (fun H locs hw => ?_)
                          refine lv_iload hx hb dL_law_760 (lv_at hl 1 rfl) ?_
                          refine lv_icmp_eq (tgt := 767) hx hb dL_law_762 (by decide) (fun hc => ?_) (fun hc => ?_)
                          · replace hM := h_t hc hM
                            refine lv_iload hx hb dL_law_767 (lv_at hl 1 rfl) ?_
                            refine lv_if_ne (tgt := 784) hx hb dL_law_769 (by decide) (fun hc => ?_) (fun hc => ?_)
                            · replace hM := h_f hc hM
                              refine lv_goto (tgt := 1526) hx hb dL_law_784 (by decide) ?_
                              refine lv_iinc (v := nI (n + 6)) (lv' := [(4, .int (nI (n + 6))), (6, .int r751.1), (5, .int r739.1), (0, .ref b), (1, .ref (ad 0)), (2, .ref (ad 109)), (3, .ref (ad 125))]) hx hb dL_law_1526 hl (k := 6) rfl (by rw [show Int32.ofInt 6 = nI 6 from by decide, nI_add]) (by decide) rfl (fun ls hl => ?_)
                              refine lv_goto (tgt := 23) hx hb dL_law_1529 (by decide) ?_
                              cases h_e hM
                              exact hk hw (lv_sub hl [3, 4, 5, 6, 0] rfl)
                            · replace hM := h_t hc hM
                              refine lv_aload_n hx hb dL_law_772 rfl (lv_at hl 5 rfl) ?_
                              refine lv_iconst (v := (0 : Int32)) hx hb dL_law_773 (by decide) ?_
                              refine a_lald (σ := aG r757.2) (o := 125) C hw rfl (aIn_v (by decide)) (show (0 : Int32).toNatClampNeg = 0 by decide) dL_law_774 ?_
                              refine lv_iload hx hb dL_law_775 (lv_at hl 0 rfl) ?_
                              refine lv_i2l hx hb dL_law_777 rfl ?_
                              refine W.lcmp hx hb dL_law_778 ?_
                              refine lv_if_eq (tgt := 784) hx hb dL_law_779 (by decide) (fun hc => ?_) (fun hc => ?_)
                              · replace hM := h_t hc hM
                                refine lv_goto (tgt := 1526) hx hb dL_law_784 (by decide) ?_
                                refine lv_iinc (v := nI (n + 6)) (lv' := [(4, .int (nI (n + 6))), (6, .int r751.1), (5, .int r739.1), (0, .ref b), (1, .ref (ad 0)), (2, .ref (ad 109)), (3, .ref (ad 125))]) hx hb dL_law_1526 hl (k := 6) rfl (by rw [show Int32.ofInt 6 = nI 6 from by decide, nI_add]) (by decide) rfl (fun ls hl => ?_)
                                refine lv_goto (tgt := 23) hx hb dL_law_1529 (by decide) ?_
                                cases h_e hM
                                exact hk hw (lv_sub hl [3, 4, 5, 6, 0] rfl)
                              · replace hM := h_f hc hM
                                refine lv_iconst (v := (0 : Int32)) hx hb dL_law_782 (by decide) ?_
                                exact absurd (congrArg Prod.fst (h_e hM)) (by simp)
                          · replace hM := h_f hc hM
                            refine lv_iconst (v := (0 : Int32)) hx hb dL_law_765 (by decide) ?_
                            exact absurd (congrArg Prod.fst (h_e hM)) (by simp)
                        · replace hM := h_f hc11 hM
                          by_cases hc12 : (a0 &&& (31 : Int32)) = 12
                          · replace hM := h_t hc12 hM
                            refine lv_tableIn (tgt := 787) hx hb dL_law_40 (by rw [hc12]; decide) (by rw [hc12]; decide) (off := 747) (by rw [hc12]; decide) (by decide) ?_
                            refine lv_aload_n hx hb dL_law_787 rfl (lv_at hl 1 rfl) ?_
                            refine lv_aload_n hx hb dL_law_788 rfl (lv_at hl 0 rfl) ?_
                            refine lv_iload hx hb dL_law_789 (lv_at hl 4 rfl) ?_
                            refine lv_iconst (v := (1 : Int32)) hx hb dL_law_791 (by decide) ?_
                            refine lv_iadd hx hb dL_law_792 ?_
                            refine s_sld (n := n) (k := 1) C hw hX hbl hbA (nI_ad n 1) (by omega) hL h1 dL_law_793 ?_
                            refine lv_aload_n hx hb dL_law_794 rfl (lv_at hl 0 rfl) ?_
                            refine lv_iload hx hb dL_law_795 (lv_at hl 4 rfl) ?_
                            refine lv_iconst (v := (2 : Int32)) hx hb dL_law_797 (by decide) ?_
                            refine lv_iadd hx hb dL_law_798 ?_
                            refine s_sld (n := n) (k := 2) C hw hX hbl hbA (nI_ad n 2) (by omega) hL h2 dL_law_799 ?_
                            refine lv_if_eq (tgt := 807) hx hb dL_law_800 (by decide) (fun hc => ?_) (fun hc => ?_)
                            · replace hM := h_t hc hM
                              refine lv_iconst (v := (0 : Int32)) hx hb dL_law_807 (by decide) ?_
                              refine lv_aload_n hx hb dL_law_808 rfl (lv_at hl 3 rfl) ?_
                              obtain ⟨r809, hr809, hM⟩ := h_b hM
                              refine x_callW (σ' := aG r809.2) (v := (some (.int r809.1))) (as := fun ad => [.ref (ad 0), .int a1, .int (0 : Int32), .ref (ad 125)]) (rest := []) C hw (cw_match l hst hr809) kw_match wM_L_128 ⟨Nat.le_of_ble_eq_true rfl, Nat.le_of_ble_eq_true rfl⟩ rfl hl rfl (Nat.le_of_ble_eq_true rfl) dL_law_809 hcs (fun H locs hw => ?_)
                              refine lv_istore (lv' := [(5, .int r809.1), (0, .ref b), (1, .ref (ad 0)), (2, .ref (ad 109)), (3, .ref (ad 125)), (4, .int (nI n))]) hx hb dL_law_812 hl (by decide) rfl (fun ls hl => ?_)
                              refine lv_aload_n hx hb dL_law_814 rfl (lv_at hl 3 rfl) ?_
                              refine lv_aload_n hx hb dL_law_815 rfl (lv_at hl 1 rfl) ?_
                              refine lv_iload hx hb dL_law_816 (lv_at hl 5 rfl) ?_
                              refine lv_iconst (v := (1 : Int32)) hx hb dL_law_818 (by decide) ?_
                              refine lv_iadd hx hb dL_law_819 ?_
                              refine s_sld (n := n) (k := 1) C hw hX hbl hbA (nI_ad n 1) (by omega) hL h1 dL_law_820 ?_
                              refine lv_aload_n hx hb dL_law_821 rfl (lv_at hl 1 rfl) ?_
                              refine lv_iload hx hb dL_law_822 (lv_at hl 5 rfl) ?_
                              refine lv_iconst (v := (2 : Int32)) hx hb dL_law_824 (by decide) ?_
                              refine lv_iadd hx hb dL_law_825 ?_
                              refine s_sld (n := n) (k := 2) C hw hX hbl hbA (nI_ad n 2) (by omega) hL h2 dL_law_826 ?_
                              refine lv_if_eq (tgt := 834) hx hb dL_law_827 (by decide) (fun hc => ?_) (fun hc => ?_)
                              · replace hM := h_t hc hM
                                refine lv_iconst (v := (0 : Int32)) hx hb dL_law_834 (by decide) ?_
                                obtain ⟨r835, hr835, hM⟩ := h_b hM
                                refine a_callV (σ' := aG r835.2) (v := (some (.int r835.1))) (As := fun ad => [.int a1, .int (0 : Int32)]) (rest := []) (o := 109) C hw (c_X7_match l hr835) k_X7_match wM_L_131 ⟨⟨rfl, rfl⟩, ⟨Nat.le_of_ble_eq_true rfl, Nat.le_of_ble_eq_true rfl⟩⟩ rfl (by decide) rfl rfl rfl hl rfl (Nat.le_of_ble_eq_true rfl) dL_law_835 hcs (fun H locs hw => ?_)
                                refine lv_istore (lv' := [(6, .int r835.1), (5, .int r809.1), (0, .ref b), (1, .ref (ad 0)), (2, .ref (ad 109)), (3, .ref (ad 125)), (4, .int (nI n))]) hx hb dL_law_838 hl (by decide) rfl (fun ls hl => ?_)
                                refine lv_aload_n hx hb dL_law_840 rfl (lv_at hl 4 rfl) ?_
                                obtain ⟨r841, hr841, hM⟩ := h_b hM
                                refine a_callV (σ' := aG r841.2) (v := (some (.int r841.1))) (As := fun ad => []) (rest := []) (o := 109) C hw (c_X7_thrown l hr841) k_X7_thrown wM_L_91 ⟨⟨rfl, rfl⟩, ⟨Nat.le_of_ble_eq_true rfl, Nat.le_of_ble_eq_true rfl⟩⟩ rfl (by decide) rfl rfl rfl hl rfl (Nat.le_of_ble_eq_true rfl) dL_law_841 hcs (fun H locs hw => ?_)
                                refine lv_iload hx hb dL_law_844 (lv_at hl 1 rfl) ?_
                                refine lv_icmp_eq (tgt := 851) hx hb dL_law_846 (by decide) (fun hc => ?_) (fun hc => ?_)
                                · replace hM := h_t hc hM
                                  refine lv_iload hx hb dL_law_851 (lv_at hl 1 rfl) ?_
                                  refine lv_if_ne (tgt := 868) hx hb dL_law_853 (by decide) (fun hc => ?_) (fun hc => ?_)
                                  · replace hM := h_f hc hM
                                    refine lv_goto (tgt := 1526) hx hb dL_law_868 (by decide) ?_
                                    refine lv_iinc (v := nI (n + 6)) (lv' := [(4, .int (nI (n + 6))), (6, .int r835.1), (5, .int r809.1), (0, .ref b), (1, .ref (ad 0)), (2, .ref (ad 109)), (3, .ref (ad 125))]) hx hb dL_law_1526 hl (k := 6) rfl (by rw [show Int32.ofInt 6 = nI 6 from by decide, nI_add]) (by decide) rfl (fun ls hl => ?_)
                                    refine lv_goto (tgt := 23) hx hb dL_law_1529 (by decide) ?_
                                    cases h_e hM
                                    exact hk hw (lv_sub hl [3, 4, 5, 6, 0] rfl)
                                  · replace hM := h_t hc hM
                                    refine lv_aload_n hx hb dL_law_856 rfl (lv_at hl 5 rfl) ?_
                                    refine lv_iconst (v := (0 : Int32)) hx hb dL_law_857 (by decide) ?_
                                    refine a_lald (σ := aG r841.2) (o := 125) C hw rfl (aIn_v (by decide)) (show (0 : Int32).toNatClampNeg = 0 by decide) dL_law_858 ?_
                                    refine lv_iload hx hb dL_law_859 (lv_at hl 0 rfl) ?_
                                    refine lv_i2l hx hb dL_law_861 rfl ?_
                                    refine W.lcmp hx hb dL_law_862 ?_
                                    refine lv_if_eq (tgt := 868) hx hb dL_law_863 (by decide) (fun hc => ?_) (fun hc => ?_)
                                    · replace hM := h_t hc hM
                                      refine lv_goto (tgt := 1526) hx hb dL_law_868 (by decide) ?_
                                      refine lv_iinc (v := nI (n + 6)) (lv' := [(4, .int (nI (n + 6))), (6, .int r835.1), (5, .int r809.1), (0, .ref b), (1, .ref (ad 0)), (2, .ref (ad 109)), (3, .ref (ad 125))]) hx hb dL_law_1526 hl (k := 6) rfl (by rw [show Int32.ofInt 6 = nI 6 from by decide, nI_add]) (by decide) rfl (fun ls hl => ?_)
                                      refine lv_goto (tgt := 23) hx hb dL_law_1529 (by decide) ?_
                                      cases h_e hM
                                      exact hk hw (lv_sub hl [3, 4, 5, 6, 0] rfl)
                                    · replace hM := h_f hc hM
                                      refine lv_iconst (v := (0 : Int32)) hx hb dL_law_866 (by decide) ?_
                                      exact absurd (congrArg Prod.fst (h_e hM)) (by simp)
                                · replace hM := h_f hc hM
                                  refine lv_iconst (v := (0 : Int32)) hx hb dL_law_849 (by decide) ?_
                                  exact absurd (congrArg Prod.fst (h_e hM)) (by simp)
                              · replace hM := h_f hc hM
                                refine lv_iconst (v := (1 : Int32)) hx hb dL_law_830 (by decide) ?_
                                refine lv_goto (tgt := 835) hx hb dL_law_831 (by decide) ?_
                                obtain ⟨r835, hr835, hM⟩ := h_b hM
                                refine a_callV (σ' := aG r835.2) (v := (some (.int r835.1))) (As := fun ad => [.int a1, .int (1 : Int32)]) (rest := []) (o := 109) C hw (c_X7_match l hr835) k_X7_match wM_L_131 ⟨⟨rfl, rfl⟩, ⟨Nat.le_of_ble_eq_true rfl, Nat.le_of_ble_eq_true rfl⟩⟩ rfl (by decide) rfl rfl rfl hl rfl (Nat.le_of_ble_eq_true rfl) dL_law_835 hcs (fun H locs hw => ?_)
                                refine lv_istore (lv' := [(6, .int r835.1), (5, .int r809.1), (0, .ref b), (1, .ref (ad 0)), (2, .ref (ad 109)), (3, .ref (ad 125)), (4, .int (nI n))]) hx hb dL_law_838 hl (by decide) rfl (fun ls hl => ?_)
                                refine lv_aload_n hx hb dL_law_840 rfl (lv_at hl 4 rfl) ?_
                                obtain ⟨r841, hr841, hM⟩ := h_b hM
                                refine a_callV (σ' := aG r841.2) (v := (some (.int r841.1))) (As := fun ad => []) (rest := []) (o := 109) C hw (c_X7_thrown l hr841) k_X7_thrown wM_L_91 ⟨⟨rfl, rfl⟩, ⟨Nat.le_of_ble_eq_true rfl, Nat.le_of_ble_eq_true rfl⟩⟩ rfl (by decide) rfl rfl rfl hl rfl (Nat.le_of_ble_eq_true rfl) dL_law_841 hcs (fun H locs hw => ?_)
                                refine lv_iload hx hb dL_law_844 (lv_at hl 1 rfl) ?_
                                refine lv_icmp_eq (tgt := 851) hx hb dL_law_846 (by decide) (fun hc => ?_) (fun hc => ?_)
                                · replace hM := h_t hc hM
                                  refine lv_iload hx hb dL_law_851 (lv_at hl 1 rfl) ?_
                                  refine lv_if_ne (tgt := 868) hx hb dL_law_853 (by decide) (fun hc => ?_) (fun hc => ?_)
                                  · replace hM := h_f hc hM
                                    refine lv_goto (tgt := 1526) hx hb dL_law_868 (by decide) ?_
                                    refine lv_iinc (v := nI (n + 6)) (lv' := [(4, .int (nI (n + 6))), (6, .int r835.1), (5, .int r809.1), (0, .ref b), (1, .ref (ad 0)), (2, .ref (ad 109)), (3, .ref (ad 125))]) hx hb dL_law_1526 hl (k := 6) rfl (by rw [show Int32.ofInt 6 = nI 6 from by decide, nI_add]) (by decide) rfl (fun ls hl => ?_)
                                    refine lv_goto (tgt := 23) hx hb dL_law_1529 (by decide) ?_
                                    cases h_e hM
                                    exact hk hw (lv_sub hl [3, 4, 5, 6, 0] rfl)
                                  · replace hM := h_t hc hM
                                    refine lv_aload_n hx hb dL_law_856 rfl (lv_at hl 5 rfl) ?_
                                    refine lv_iconst (v := (0 : Int32)) hx hb dL_law_857 (by decide) ?_
                                    refine a_lald (σ := aG r841.2) (o := 125) C hw rfl (aIn_v (by decide)) (show (0 : Int32).toNatClampNeg = 0 by decide) dL_law_858 ?_
                                    refine lv_iload hx hb dL_law_859 (lv_at hl 0 rfl) ?_
                                    refine lv_i2l hx hb dL_law_861 rfl ?_
                                    refine W.lcmp hx hb dL_law_862 ?_
                                    refine lv_if_eq (tgt := 868) hx hb dL_law_863 (by decide) (fun hc => ?_) (fun hc => ?_)
                                    · replace hM := h_t hc hM
                                      refine lv_goto (tgt := 1526) hx hb dL_law_868 (by decide) ?_
                                      refine lv_iinc (v := nI (n + 6)) (lv' := [(4, .int (nI (n + 6))), (6, .int r835.1), (5, .int r809.1), (0, .ref b), (1, .ref (ad 0)), (2, .ref (ad 109)), (3, .ref (ad 125))]) hx hb dL_law_1526 hl (k := 6) rfl (by rw [show Int32.ofInt 6 = nI 6 from by decide, nI_add]) (by decide) rfl (fun ls hl => ?_)
                                      refine lv_goto (tgt := 23) hx hb dL_law_1529 (by decide) ?_
                                      cases h_e hM
                                      exact hk hw (lv_sub hl [3, 4, 5, 6, 0] rfl)
                                    · replace hM := h_f hc hM
                                      refine lv_iconst (v := (0 : Int32)) hx hb dL_law_866 (by decide) ?_
                                      exact absurd (congrArg Prod.fst (h_e hM)) (by simp)
                                · replace hM := h_f hc hM
                                  refine lv_iconst (v := (0 : Int32)) hx hb dL_law_849 (by decide) ?_
                                  exact absurd (congrArg Prod.fst (h_e hM)) (by simp)
                            · replace hM := h_f hc hM
                              refine lv_iconst (v := (1 : Int32)) hx hb dL_law_803 (by decide) ?_
                              refine lv_goto (tgt := 808) hx hb dL_law_804 (by decide) ?_
                              refine lv_aload_n hx hb dL_law_808 rfl (lv_at hl 3 rfl) ?_
                              obtain ⟨r809, hr809, hM⟩ := h_b hM
                              refine x_callW (σ' := aG r809.2) (v := (some (.int r809.1))) (as := fun ad => [.ref (ad 0), .int a1, .int (1 : Int32), .ref (ad 125)]) (rest := []) C hw (cw_match l hst hr809) kw_match wM_L_128 ⟨Nat.le_of_ble_eq_true rfl, Nat.le_of_ble_eq_true rfl⟩ rfl hl rfl (Nat.le_of_ble_eq_true rfl) dL_law_809 hcs (fun H locs hw => ?_)
                              refine lv_istore (lv' := [(5, .int r809.1), (0, .ref b), (1, .ref (ad 0)), (2, .ref (ad 109)), (3, .ref (ad 125)), (4, .int (nI n))]) hx hb dL_law_812 hl (by decide) rfl (fun ls hl => ?_)
                              refine lv_aload_n hx hb dL_law_814 rfl (lv_at hl 3 rfl) ?_
                              refine lv_aload_n hx hb dL_law_815 rfl (lv_at hl 1 rfl) ?_
                              refine lv_iload hx hb dL_law_816 (lv_at hl 5 rfl) ?_
                              refine lv_iconst (v := (1 : Int32)) hx hb dL_law_818 (by decide) ?_
                              refine lv_iadd hx hb dL_law_819 ?_
                              refine s_sld (n := n) (k := 1) C hw hX hbl hbA (nI_ad n 1) (by omega) hL h1 dL_law_820 ?_
                              refine lv_aload_n hx hb dL_law_821 rfl (lv_at hl 1 rfl) ?_
                              refine lv_iload hx hb dL_law_822 (lv_at hl 5 rfl) ?_
                              refine lv_iconst (v := (2 : Int32)) hx hb dL_law_824 (by decide) ?_
                              refine lv_iadd hx hb dL_law_825 ?_
                              refine s_sld (n := n) (k := 2) C hw hX hbl hbA (nI_ad n 2) (by omega) hL h2 dL_law_826 ?_
                              refine lv_if_eq (tgt := 834) hx hb dL_law_827 (by decide) (fun hc => ?_) (fun hc => ?_)
                              · replace hM := h_t hc hM
                                refine lv_iconst (v := (0 : Int32)) hx hb dL_law_834 (by decide) ?_
                                obtain ⟨r835, hr835, hM⟩ := h_b hM
                                refine a_callV (σ' := aG r835.2) (v := (some (.int r835.1))) (As := fun ad => [.int a1, .int (0 : Int32)]) (rest := []) (o := 109) C hw (c_X7_match l hr835) k_X7_match wM_L_131 ⟨⟨rfl, rfl⟩, ⟨Nat.le_of_ble_eq_true rfl, Nat.le_of_ble_eq_true rfl⟩⟩ rfl (by decide) rfl rfl rfl hl rfl (Nat.le_of_ble_eq_true rfl) dL_law_835 hcs (fun H locs hw => ?_)
                                refine lv_istore (lv' := [(6, .int r835.1), (5, .int r809.1), (0, .ref b), (1, .ref (ad 0)), (2, .ref (ad 109)), (3, .ref (ad 125)), (4, .int (nI n))]) hx hb dL_law_838 hl (by decide) rfl (fun ls hl => ?_)
                                refine lv_aload_n hx hb dL_law_840 rfl (lv_at hl 4 rfl) ?_
                                obtain ⟨r841, hr841, hM⟩ := h_b hM
                                refine a_callV (σ' := aG r841.2) (v := (some (.int r841.1))) (As := fun ad => []) (rest := []) (o := 109) C hw (c_X7_thrown l hr841) k_X7_thrown wM_L_91 ⟨⟨rfl, rfl⟩, ⟨Nat.le_of_ble_eq_true rfl, Nat.le_of_ble_eq_true rfl⟩⟩ rfl (by decide) rfl rfl rfl hl rfl (Nat.le_of_ble_eq_true rfl) dL_law_841 hcs (fun H locs hw => ?_)
                                refine lv_iload hx hb dL_law_844 (lv_at hl 1 rfl) ?_
                                refine lv_icmp_eq (tgt := 851) hx hb dL_law_846 (by decide) (fun hc => ?_) (fun hc => ?_)
                                · replace hM := h_t hc hM
                                  refine lv_iload hx hb dL_law_851 (lv_at hl 1 rfl) ?_
                                  refine lv_if_ne (tgt := 868) hx hb dL_law_853 (by decide) (fun hc => ?_) (fun hc => ?_)
                                  · replace hM := h_f hc hM
                                    refine lv_goto (tgt := 1526) hx hb dL_law_868 (by decide) ?_
                                    refine lv_iinc (v := nI (n + 6)) (lv' := [(4, .int (nI (n + 6))), (6, .int r835.1), (5, .int r809.1), (0, .ref b), (1, .ref (ad 0)), (2, .ref (ad 109)), (3, .ref (ad 125))]) hx hb dL_law_1526 hl (k := 6) rfl (by rw [show Int32.ofInt 6 = nI 6 from by decide, nI_add]) (by decide) rfl (fun ls hl => ?_)
                                    refine lv_goto (tgt := 23) hx hb dL_law_1529 (by decide) ?_
                                    cases h_e hM
                                    exact hk hw (lv_sub hl [3, 4, 5, 6, 0] rfl)
                                  · replace hM := h_t hc hM
                                    refine lv_aload_n hx hb dL_law_856 rfl (lv_at hl 5 rfl) ?_
                                    refine lv_iconst (v := (0 : Int32)) hx hb dL_law_857 (by decide) ?_
                                    refine a_lald (σ := aG r841.2) (o := 125) C hw rfl (aIn_v (by decide)) (show (0 : Int32).toNatClampNeg = 0 by decide) dL_law_858 ?_
                                    refine lv_iload hx hb dL_law_859 (lv_at hl 0 rfl) ?_
                                    refine lv_i2l hx hb dL_law_861 rfl ?_
                                    refine W.lcmp hx hb dL_law_862 ?_
                                    refine lv_if_eq (tgt := 868) hx hb dL_law_863 (by decide) (fun hc => ?_) (fun hc => ?_)
                                    · replace hM := h_t hc hM
                                      refine lv_goto (tgt := 1526) hx hb dL_law_868 (by decide) ?_
                                      refine lv_iinc (v := nI (n + 6)) (lv' := [(4, .int (nI (n + 6))), (6, .int r835.1), (5, .int r809.1), (0, .ref b), (1, .ref (ad 0)), (2, .ref (ad 109)), (3, .ref (ad 125))]) hx hb dL_law_1526 hl (k := 6) rfl (by rw [show Int32.ofInt 6 = nI 6 from by decide, nI_add]) (by decide) rfl (fun ls hl => ?_)
                                      refine lv_goto (tgt := 23) hx hb dL_law_1529 (by decide) ?_
                                      cases h_e hM
                                      exact hk hw (lv_sub hl [3, 4, 5, 6, 0] rfl)
                                    · replace hM := h_f hc hM
                                      refine lv_iconst (v := (0 : Int32)) hx hb dL_law_866 (by decide) ?_
                                      exact absurd (congrArg Prod.fst (h_e hM)) (by simp)
                                · replace hM := h_f hc hM
                                  refine lv_iconst (v := (0 : Int32)) hx hb dL_law_849 (by decide) ?_
                                  exact absurd (congrArg Prod.fst (h_e hM)) (by simp)
                              · replace hM := h_f hc hM
                                refine lv_iconst (v := (1 : Int32)) hx hb dL_law_830 (by decide) ?_
                                refine lv_goto (tgt := 835) hx hb dL_law_831 (by decide) ?_
                                obtain ⟨r835, hr835, hM⟩ := h_b hM
                                refine a_callV (σ' := aG r835.2) (v := (some (.int r835.1))) (As := fun ad => [.int a1, .int (1 : Int32)]) (rest := []) (o := 109) C hw (c_X7_match l hr835) k_X7_match wM_L_131 ⟨⟨rfl, rfl⟩, ⟨Nat.le_of_ble_eq_true rfl, Nat.le_of_ble_eq_true rfl⟩⟩ rfl (by decide) rfl rfl rfl hl rfl (Nat.le_of_ble_eq_true rfl) dL_law_835 hcs (fun H locs hw => ?_)
                                refine lv_istore (lv' := [(6, .int r835.1), (5, .int r809.1), (0, .ref b), (1, .ref (ad 0)), (2, .ref (ad 109)), (3, .ref (ad 125)), (4, .int (nI n))]) hx hb dL_law_838 hl (by decide) rfl (fun ls hl => ?_)
                                refine lv_aload_n hx hb dL_law_840 rfl (lv_at hl 4 rfl) ?_
                                obtain ⟨r841, hr841, hM⟩ := h_b hM
                                refine a_callV (σ' := aG r841.2) (v := (some (.int r841.1))) (As := fun ad => []) (rest := []) (o := 109) C hw (c_X7_thrown l hr841) k_X7_thrown wM_L_91 ⟨⟨rfl, rfl⟩, ⟨Nat.le_of_ble_eq_true rfl, Nat.le_of_ble_eq_true rfl⟩⟩ rfl (by decide) rfl rfl rfl hl rfl (Nat.le_of_ble_eq_true rfl) dL_law_841 hcs (fun H locs hw => ?_)
                                refine lv_iload hx hb dL_law_844 (lv_at hl 1 rfl) ?_
                                refine lv_icmp_eq (tgt := 851) hx hb dL_law_846 (by decide) (fun hc => ?_) (fun hc => ?_)
                                · replace hM := h_t hc hM
                                  refine lv_iload hx hb dL_law_851 (lv_at hl 1 rfl) ?_
                                  refine lv_if_ne (tgt := 868) hx hb dL_law_853 (by decide) (fun hc => ?_) (fun hc => ?_)
                                  · replace hM := h_f hc hM
                                    refine lv_goto (tgt := 1526) hx hb dL_law_868 (by decide) ?_
                                    refine lv_iinc (v := nI (n + 6)) (lv' := [(4, .int (nI (n + 6))), (6, .int r835.1), (5, .int r809.1), (0, .ref b), (1, .ref (ad 0)), (2, .ref (ad 109)), (3, .ref (ad 125))]) hx hb dL_law_1526 hl (k := 6) rfl (by rw [show Int32.ofInt 6 = nI 6 from by decide, nI_add]) (by decide) rfl (fun ls hl => ?_)
                                    refine lv_goto (tgt := 23) hx hb dL_law_1529 (by decide) ?_
                                    cases h_e hM
                                    exact hk hw (lv_sub hl [3, 4, 5, 6, 0] rfl)
                                  · replace hM := h_t hc hM
                                    refine lv_aload_n hx hb dL_law_856 rfl (lv_at hl 5 rfl) ?_
                                    refine lv_iconst (v := (0 : Int32)) hx hb dL_law_857 (by decide) ?_
                                    refine a_lald (σ := aG r841.2) (o := 125) C hw rfl (aIn_v (by decide)) (show (0 : Int32).toNatClampNeg = 0 by decide) dL_law_858 ?_
                                    refine lv_iload hx hb dL_law_859 (lv_at hl 0 rfl) ?_
                                    refine lv_i2l hx hb dL_law_861 rfl ?_
                                    refine W.lcmp hx hb dL_law_862 ?_
                                    refine lv_if_eq (tgt := 868) hx hb dL_law_863 (by decide) (fun hc => ?_) (fun hc => ?_)
                                    · replace hM := h_t hc hM
                                      refine lv_goto (tgt := 1526) hx hb dL_law_868 (by decide) ?_
                                      refine lv_iinc (v := nI (n + 6)) (lv' := [(4, .int (nI (n + 6))), (6, .int r835.1), (5, .int r809.1), (0, .ref b), (1, .ref (ad 0)), (2, .ref (ad 109)), (3, .ref (ad 125))]) hx hb dL_law_1526 hl (k := 6) rfl (by rw [show Int32.ofInt 6 = nI 6 from by decide, nI_add]) (by decide) rfl (fun ls hl => ?_)
                                      refine lv_goto (tgt := 23) hx hb dL_law_1529 (by decide) ?_
                                      cases h_e hM
                                      exact hk hw (lv_sub hl [3, 4, 5, 6, 0] rfl)
                                    · replace hM := h_f hc hM
                                      refine lv_iconst (v := (0 : Int32)) hx hb dL_law_866 (by decide) ?_
                                      exact absurd (congrArg Prod.fst (h_e hM)) (by simp)
                                · replace hM := h_f hc hM
                                  refine lv_iconst (v := (0 : Int32)) hx hb dL_law_849 (by decide) ?_
                                  exact absurd (congrArg Prod.fst (h_e hM)) (by simp)
                          · replace hM := h_f hc12 hM
                            by_cases hc13 : (a0 &&& (31 : Int32)) = 13
                            · replace hM := h_t hc13 hM
                              refine lv_tableIn (tgt := 871) hx hb dL_law_40 (by rw [hc13]; decide) (by rw [hc13]; decide) (off := 831) (by rw [hc13]; decide) (by decide) ?_
                              refine lv_aload_n hx hb dL_law_871 rfl (lv_at hl 1 rfl) ?_
                              refine lv_aload_n hx hb dL_law_872 rfl (lv_at hl 0 rfl) ?_
                              refine lv_iload hx hb dL_law_873 (lv_at hl 4 rfl) ?_
                              refine lv_iconst (v := (1 : Int32)) hx hb dL_law_875 (by decide) ?_
                              refine lv_iadd hx hb dL_law_876 ?_
                              refine s_sld (n := n) (k := 1) C hw hX hbl hbA (nI_ad n 1) (by omega) hL h1 dL_law_877 ?_
                              refine lv_aload_n hx hb dL_law_878 rfl (lv_at hl 3 rfl) ?_
                              obtain ⟨r879, hr879, hM⟩ := h_b hM
                              refine x_callW (σ' := aG r879.2) (v := (some (.int r879.1))) (as := fun ad => [.ref (ad 0), .int a1, .ref (ad 125)]) (rest := []) C hw (cw_mocks l hst hr879) kw_mocks wM_L_132 ⟨Nat.le_of_ble_eq_true rfl, Nat.le_of_ble_eq_true rfl⟩ rfl hl rfl (Nat.le_of_ble_eq_true rfl) dL_law_879 hcs (fun H locs hw => ?_)
                              refine lv_istore (lv' := [(5, .int r879.1), (0, .ref b), (1, .ref (ad 0)), (2, .ref (ad 109)), (3, .ref (ad 125)), (4, .int (nI n))]) hx hb dL_law_882 hl (by decide) rfl (fun ls hl => ?_)
                              refine lv_aload_n hx hb dL_law_884 rfl (lv_at hl 3 rfl) ?_
                              refine lv_aload_n hx hb dL_law_885 rfl (lv_at hl 1 rfl) ?_
                              refine lv_iload hx hb dL_law_886 (lv_at hl 5 rfl) ?_
                              refine lv_iconst (v := (1 : Int32)) hx hb dL_law_888 (by decide) ?_
                              refine lv_iadd hx hb dL_law_889 ?_
                              refine s_sld (n := n) (k := 1) C hw hX hbl hbA (nI_ad n 1) (by omega) hL h1 dL_law_890 ?_
                              obtain ⟨r891, hr891, hM⟩ := h_b hM
                              refine a_callV (σ' := aG r891.2) (v := (some (.int r891.1))) (As := fun ad => [.int a1]) (rest := []) (o := 109) C hw (c_X7_mocks l hr891) k_X7_mocks wM_L_134 ⟨⟨rfl, rfl⟩, ⟨Nat.le_of_ble_eq_true rfl, Nat.le_of_ble_eq_true rfl⟩⟩ rfl (by decide) rfl rfl rfl hl rfl (Nat.le_of_ble_eq_true rfl) dL_law_891 hcs (fun H locs hw => ?_)
                              refine lv_istore (lv' := [(6, .int r891.1), (5, .int r879.1), (0, .ref b), (1, .ref (ad 0)), (2, .ref (ad 109)), (3, .ref (ad 125)), (4, .int (nI n))]) hx hb dL_law_894 hl (by decide) rfl (fun ls hl => ?_)
                              refine lv_aload_n hx hb dL_law_896 rfl (lv_at hl 4 rfl) ?_
                              obtain ⟨r897, hr897, hM⟩ := h_b hM
                              refine a_callV (σ' := aG r897.2) (v := (some (.int r897.1))) (As := fun ad => []) (rest := []) (o := 109) C hw (c_X7_thrown l hr897) k_X7_thrown wM_L_91 ⟨⟨rfl, rfl⟩, ⟨Nat.le_of_ble_eq_true rfl, Nat.le_of_ble_eq_true rfl⟩⟩ rfl (by decide) rfl rfl rfl hl rfl (Nat.le_of_ble_eq_true rfl) dL_law_897 hcs (fun H locs hw => ?_)
                              refine lv_iload hx hb dL_law_900 (lv_at hl 1 rfl) ?_
                              refine lv_icmp_eq (tgt := 907) hx hb dL_law_902 (by decide) (fun hc => ?_) (fun hc => ?_)
                              · replace hM := h_t hc hM
                                refine lv_iload hx hb dL_law_907 (lv_at hl 1 rfl) ?_
                                refine lv_if_ne (tgt := 924) hx hb dL_law_909 (by decide) (fun hc => ?_) (fun hc => ?_)
                                · replace hM := h_f hc hM
                                  refine lv_goto (tgt := 1526) hx hb dL_law_924 (by decide) ?_
                                  refine lv_iinc (v := nI (n + 6)) (lv' := [(4, .int (nI (n + 6))), (6, .int r891.1), (5, .int r879.1), (0, .ref b), (1, .ref (ad 0)), (2, .ref (ad 109)), (3, .ref (ad 125))]) hx hb dL_law_1526 hl (k := 6) rfl (by rw [show Int32.ofInt 6 = nI 6 from by decide, nI_add]) (by decide) rfl (fun ls hl => ?_)
                                  refine lv_goto (tgt := 23) hx hb dL_law_1529 (by decide) ?_
                                  cases h_e hM
                                  exact hk hw (lv_sub hl [3, 4, 5, 6, 0] rfl)
                                · replace hM := h_t hc hM
                                  refine lv_aload_n hx hb dL_law_912 rfl (lv_at hl 5 rfl) ?_
                                  refine lv_iconst (v := (0 : Int32)) hx hb dL_law_913 (by decide) ?_
                                  refine a_lald (σ := aG r897.2) (o := 125) C hw rfl (aIn_v (by decide)) (show (0 : Int32).toNatClampNeg = 0 by decide) dL_law_914 ?_
                                  refine lv_iload hx hb dL_law_915 (lv_at hl 0 rfl) ?_
                                  refine lv_i2l hx hb dL_law_917 rfl ?_
                                  refine W.lcmp hx hb dL_law_918 ?_
                                  refine lv_if_eq (tgt := 924) hx hb dL_law_919 (by decide) (fun hc => ?_) (fun hc => ?_)
                                  · replace hM := h_t hc hM
                                    refine lv_goto (tgt := 1526) hx hb dL_law_924 (by decide) ?_
                                    refine lv_iinc (v := nI (n + 6)) (lv' := [(4, .int (nI (n + 6))), (6, .int r891.1), (5, .int r879.1), (0, .ref b), (1, .ref (ad 0)), (2, .ref (ad 109)), (3, .ref (ad 125))]) hx hb dL_law_1526 hl (k := 6) rfl (by rw [show Int32.ofInt 6 = nI 6 from by decide, nI_add]) (by decide) rfl (fun ls hl => ?_)
                                    refine lv_goto (tgt := 23) hx hb dL_law_1529 (by decide) ?_
                                    cases h_e hM
                                    exact hk hw (lv_sub hl [3, 4, 5, 6, 0] rfl)
                                  · replace hM := h_f hc hM
                                    refine lv_iconst (v := (0 : Int32)) hx hb dL_law_922 (by decide) ?_
                                    exact absurd (congrArg Prod.fst (h_e hM)) (by simp)
                              · replace hM := h_f hc hM
                                refine lv_iconst (v := (0 : Int32)) hx hb dL_law_905 (by decide) ?_
                                exact absurd (congrArg Prod.fst (h_e hM)) (by simp)
                            · replace hM := h_f hc13 hM
                              by_cases hc14 : (a0 &&& (31 : Int32)) = 14
                              · replace hM := h_t hc14 hM
                                refine lv_tableIn (tgt := 927) hx hb dL_law_40 (by rw [hc14]; decide) (by rw [hc14]; decide) (off := 887) (by rw [hc14]; decide) (by decide) ?_
                                refine lv_aload_n hx hb dL_law_927 rfl (lv_at hl 1 rfl) ?_
                                refine lv_aload_n hx hb dL_law_928 rfl (lv_at hl 0 rfl) ?_
                                refine lv_iload hx hb dL_law_929 (lv_at hl 4 rfl) ?_
                                refine lv_iconst (v := (1 : Int32)) hx hb dL_law_931 (by decide) ?_
                                refine lv_iadd hx hb dL_law_932 ?_
                                refine s_sld (n := n) (k := 1) C hw hX hbl hbA (nI_ad n 1) (by omega) hL h1 dL_law_933 ?_
                                refine lv_aload_n hx hb dL_law_934 rfl (lv_at hl 0 rfl) ?_
                                refine lv_iload hx hb dL_law_935 (lv_at hl 4 rfl) ?_
                                refine lv_iconst (v := (2 : Int32)) hx hb dL_law_937 (by decide) ?_
                                refine lv_iadd hx hb dL_law_938 ?_
                                refine s_sld (n := n) (k := 2) C hw hX hbl hbA (nI_ad n 2) (by omega) hL h2 dL_law_939 ?_
                                refine lv_aload_n hx hb dL_law_940 rfl (lv_at hl 3 rfl) ?_
                                obtain ⟨r941, hr941, hM⟩ := h_b hM
                                refine x_callW (σ' := aG r941.2) (v := (some (.int r941.1))) (as := fun ad => [.ref (ad 0), .int a1, .int a2, .ref (ad 125)]) (rest := []) C hw (cw_alike l hst hr941) kw_alike wM_L_135 ⟨Nat.le_of_ble_eq_true rfl, Nat.le_of_ble_eq_true rfl⟩ rfl hl rfl (Nat.le_of_ble_eq_true rfl) dL_law_941 hcs (fun H locs hw => ?_)
                                refine lv_istore (lv' := [(5, .int r941.1), (0, .ref b), (1, .ref (ad 0)), (2, .ref (ad 109)), (3, .ref (ad 125)), (4, .int (nI n))]) hx hb dL_law_944 hl (by decide) rfl (fun ls hl => ?_)
                                refine lv_aload_n hx hb dL_law_946 rfl (lv_at hl 3 rfl) ?_
                                refine lv_aload_n hx hb dL_law_947 rfl (lv_at hl 1 rfl) ?_
                                refine lv_iload hx hb dL_law_948 (lv_at hl 5 rfl) ?_
                                refine lv_iconst (v := (1 : Int32)) hx hb dL_law_950 (by decide) ?_
                                refine lv_iadd hx hb dL_law_951 ?_
                                refine s_sld (n := n) (k := 1) C hw hX hbl hbA (nI_ad n 1) (by omega) hL h1 dL_law_952 ?_
                                refine lv_aload_n hx hb dL_law_953 rfl (lv_at hl 1 rfl) ?_
                                refine lv_iload hx hb dL_law_954 (lv_at hl 5 rfl) ?_
                                refine lv_iconst (v := (2 : Int32)) hx hb dL_law_956 (by decide) ?_
                                refine lv_iadd hx hb dL_law_957 ?_
                                refine s_sld (n := n) (k := 2) C hw hX hbl hbA (nI_ad n 2) (by omega) hL h2 dL_law_958 ?_
                                obtain ⟨r959, hr959, hM⟩ := h_b hM
                                refine a_callV (σ' := aG r959.2) (v := (some (.int r959.1))) (As := fun ad => [.int a1, .int a2]) (rest := []) (o := 109) C hw (c_X7_alike l hr959) k_X7_alike wM_L_137 ⟨⟨rfl, rfl⟩, ⟨Nat.le_of_ble_eq_true rfl, Nat.le_of_ble_eq_true rfl⟩⟩ rfl (by decide) rfl rfl rfl hl rfl (Nat.le_of_ble_eq_true rfl) dL_law_959 hcs (fun H locs hw => ?_)
                                refine lv_istore (lv' := [(6, .int r959.1), (5, .int r941.1), (0, .ref b), (1, .ref (ad 0)), (2, .ref (ad 109)), (3, .ref (ad 125)), (4, .int (nI n))]) hx hb dL_law_962 hl (by decide) rfl (fun ls hl => ?_)
                                refine lv_aload_n hx hb dL_law_964 rfl (lv_at hl 4 rfl) ?_
                                obtain ⟨r965, hr965, hM⟩ := h_b hM
                                refine a_callV (σ' := aG r965.2) (v := (some (.int r965.1))) (As := fun ad => []) (rest := []) (o := 109) C hw (c_X7_thrown l hr965) k_X7_thrown wM_L_91 ⟨⟨rfl, rfl⟩, ⟨Nat.le_of_ble_eq_true rfl, Nat.le_of_ble_eq_true rfl⟩⟩ rfl (by decide) rfl rfl rfl hl rfl (Nat.le_of_ble_eq_true rfl) dL_law_965 hcs (fun H locs hw => ?_)
                                refine lv_iload hx hb dL_law_968 (lv_at hl 1 rfl) ?_
                                refine lv_icmp_eq (tgt := 975) hx hb dL_law_970 (by decide) (fun hc => ?_) (fun hc => ?_)
                                · replace hM := h_t hc hM
                                  refine lv_iload hx hb dL_law_975 (lv_at hl 1 rfl) ?_
                                  refine lv_if_ne (tgt := 992) hx hb dL_law_977 (by decide) (fun hc => ?_) (fun hc => ?_)
                                  · replace hM := h_f hc hM
                                    refine lv_goto (tgt := 1526) hx hb dL_law_992 (by decide) ?_
                                    refine lv_iinc (v := nI (n + 6)) (lv' := [(4, .int (nI (n + 6))), (6, .int r959.1), (5, .int r941.1), (0, .ref b), (1, .ref (ad 0)), (2, .ref (ad 109)), (3, .ref (ad 125))]) hx hb dL_law_1526 hl (k := 6) rfl (by rw [show Int32.ofInt 6 = nI 6 from by decide, nI_add]) (by decide) rfl (fun ls hl => ?_)
                                    refine lv_goto (tgt := 23) hx hb dL_law_1529 (by decide) ?_
                                    cases h_e hM
                                    exact hk hw (lv_sub hl [3, 4, 5, 6, 0] rfl)
                                  · replace hM := h_t hc hM
                                    refine lv_aload_n hx hb dL_law_980 rfl (lv_at hl 5 rfl) ?_
                                    refine lv_iconst (v := (0 : Int32)) hx hb dL_law_981 (by decide) ?_
                                    refine a_lald (σ := aG r965.2) (o := 125) C hw rfl (aIn_v (by decide)) (show (0 : Int32).toNatClampNeg = 0 by decide) dL_law_982 ?_
                                    refine lv_iload hx hb dL_law_983 (lv_at hl 0 rfl) ?_
                                    refine lv_i2l hx hb dL_law_985 rfl ?_
                                    refine W.lcmp hx hb dL_law_986 ?_
                                    refine lv_if_eq (tgt := 992) hx hb dL_law_987 (by decide) (fun hc => ?_) (fun hc => ?_)
                                    · replace hM := h_t hc hM
                                      refine lv_goto (tgt := 1526) hx hb dL_law_992 (by decide) ?_
                                      refine lv_iinc (v := nI (n + 6)) (lv' := [(4, .int (nI (n + 6))), (6, .int r959.1), (5, .int r941.1), (0, .ref b), (1, .ref (ad 0)), (2, .ref (ad 109)), (3, .ref (ad 125))]) hx hb dL_law_1526 hl (k := 6) rfl (by rw [show Int32.ofInt 6 = nI 6 from by decide, nI_add]) (by decide) rfl (fun ls hl => ?_)
                                      refine lv_goto (tgt := 23) hx hb dL_law_1529 (by decide) ?_
                                      cases h_e hM
                                      exact hk hw (lv_sub hl [3, 4, 5, 6, 0] rfl)
                                    · replace hM := h_f hc hM
                                      refine lv_iconst (v := (0 : Int32)) hx hb dL_law_990 (by decide) ?_
                                      exact absurd (congrArg Prod.fst (h_e hM)) (by simp)
                                · replace hM := h_f hc hM
                                  refine lv_iconst (v := (0 : Int32)) hx hb dL_law_973 (by decide) ?_
                                  exact absurd (congrArg Prod.fst (h_e hM)) (by simp)
                              · replace hM := h_f hc14 hM
                                by_cases hc15 : (a0 &&& (31 : Int32)) = 15
                                · replace hM := h_t hc15 hM
                                  refine lv_tableIn (tgt := 995) hx hb dL_law_40 (by rw [hc15]; decide) (by rw [hc15]; decide) (off := 955) (by rw [hc15]; decide) (by decide) ?_
                                  refine lv_aload_n hx hb dL_law_995 rfl (lv_at hl 1 rfl) ?_
                                  refine lv_aload_n hx hb dL_law_996 rfl (lv_at hl 0 rfl) ?_
                                  refine lv_iload hx hb dL_law_997 (lv_at hl 4 rfl) ?_
                                  refine lv_iconst (v := (1 : Int32)) hx hb dL_law_999 (by decide) ?_
                                  refine lv_iadd hx hb dL_law_1000 ?_
                                  refine s_sld (n := n) (k := 1) C hw hX hbl hbA (nI_ad n 1) (by omega) hL h1 dL_law_1001 ?_
                                  refine lv_aload_n hx hb dL_law_1002 rfl (lv_at hl 0 rfl) ?_
                                  refine lv_iload hx hb dL_law_1003 (lv_at hl 4 rfl) ?_
                                  refine lv_iconst (v := (2 : Int32)) hx hb dL_law_1005 (by decide) ?_
                                  refine lv_iadd hx hb dL_law_1006 ?_
                                  refine s_sld (n := n) (k := 2) C hw hX hbl hbA (nI_ad n 2) (by omega) hL h2 dL_law_1007 ?_
                                  refine lv_aload_n hx hb dL_law_1008 rfl (lv_at hl 0 rfl) ?_
                                  refine lv_iload hx hb dL_law_1009 (lv_at hl 4 rfl) ?_
                                  refine lv_iconst (v := (3 : Int32)) hx hb dL_law_1011 (by decide) ?_
                                  refine lv_iadd hx hb dL_law_1012 ?_
                                  refine s_sld (n := n) (k := 3) C hw hX hbl hbA (nI_ad n 3) (by omega) hL h3 dL_law_1013 ?_
                                  refine lv_if_eq (tgt := 1021) hx hb dL_law_1014 (by decide) (fun hc => ?_) (fun hc => ?_)
                                  · replace hM := h_t hc hM
                                    refine lv_iconst (v := (0 : Int32)) hx hb dL_law_1021 (by decide) ?_
                                    refine lv_aload_n hx hb dL_law_1022 rfl (lv_at hl 0 rfl) ?_
                                    refine lv_iload hx hb dL_law_1023 (lv_at hl 4 rfl) ?_
                                    refine lv_iconst (v := (4 : Int32)) hx hb dL_law_1025 (by decide) ?_
                                    refine lv_iadd hx hb dL_law_1026 ?_
                                    refine s_sld (n := n) (k := 4) C hw hX hbl hbA (nI_ad n 4) (by omega) hL h4 dL_law_1027 ?_
                                    refine lv_if_eq (tgt := 1035) hx hb dL_law_1028 (by decide) (fun hc => ?_) (fun hc => ?_)
                                    · replace hM := h_t hc hM
                                      refine lv_iconst (v := (0 : Int32)) hx hb dL_law_1035 (by decide) ?_
                                      refine lv_aload_n hx hb dL_law_1036 rfl (lv_at hl 0 rfl) ?_
                                      refine lv_iload hx hb dL_law_1037 (lv_at hl 4 rfl) ?_
                                      refine lv_iconst (v := (5 : Int32)) hx hb dL_law_1039 (by decide) ?_
                                      refine lv_iadd hx hb dL_law_1040 ?_
                                      refine s_sld (n := n) (k := 5) C hw hX hbl hbA (nI_ad n 5) (by omega) hL h5 dL_law_1041 ?_
                                      refine lv_aload_n hx hb dL_law_1042 rfl (lv_at hl 3 rfl) ?_
                                      obtain ⟨r1043, hr1043, hM⟩ := h_b hM
                                      refine x_callW (σ' := aG r1043.2) (v := (some (.int r1043.1))) (as := fun ad => [.ref (ad 0), .int a1, .int a2, .int (0 : Int32), .int (0 : Int32), .int a5, .ref (ad 125)]) (rest := []) C hw (cw_chance l hst hr1043) kw_chance wM_L_138 ⟨Nat.le_of_ble_eq_true rfl, Nat.le_of_ble_eq_true rfl⟩ rfl hl rfl (Nat.le_of_ble_eq_true rfl) dL_law_1043 hcs (fun H locs hw => ?_)
                                      refine lv_istore (lv' := [(5, .int r1043.1), (0, .ref b), (1, .ref (ad 0)), (2, .ref (ad 109)), (3, .ref (ad 125)), (4, .int (nI n))]) hx hb dL_law_1046 hl (by decide) rfl (fun ls hl => ?_)
                                      refine lv_aload_n hx hb dL_law_1048 rfl (lv_at hl 3 rfl) ?_
                                      refine lv_aload_n hx hb dL_law_1049 rfl (lv_at hl 1 rfl) ?_
                                      refine lv_iload hx hb dL_law_1050 (lv_at hl 5 rfl) ?_
                                      refine lv_iconst (v := (1 : Int32)) hx hb dL_law_1052 (by decide) ?_
                                      refine lv_iadd hx hb dL_law_1053 ?_
                                      refine s_sld (n := n) (k := 1) C hw hX hbl hbA (nI_ad n 1) (by omega) hL h1 dL_law_1054 ?_
                                      refine lv_aload_n hx hb dL_law_1055 rfl (lv_at hl 1 rfl) ?_
                                      refine lv_iload hx hb dL_law_1056 (lv_at hl 5 rfl) ?_
                                      refine lv_iconst (v := (2 : Int32)) hx hb dL_law_1058 (by decide) ?_
                                      refine lv_iadd hx hb dL_law_1059 ?_
                                      refine s_sld (n := n) (k := 2) C hw hX hbl hbA (nI_ad n 2) (by omega) hL h2 dL_law_1060 ?_
                                      refine lv_aload_n hx hb dL_law_1061 rfl (lv_at hl 1 rfl) ?_
                                      refine lv_iload hx hb dL_law_1062 (lv_at hl 5 rfl) ?_
                                      refine lv_iconst (v := (3 : Int32)) hx hb dL_law_1064 (by decide) ?_
                                      refine lv_iadd hx hb dL_law_1065 ?_
                                      refine s_sld (n := n) (k := 3) C hw hX hbl hbA (nI_ad n 3) (by omega) hL h3 dL_law_1066 ?_
                                      refine lv_if_eq (tgt := 1074) hx hb dL_law_1067 (by decide) (fun hc => ?_) (fun hc => ?_)
                                      · replace hM := h_t hc hM
                                        refine lv_iconst (v := (0 : Int32)) hx hb dL_law_1074 (by decide) ?_
                                        refine lv_aload_n hx hb dL_law_1075 rfl (lv_at hl 1 rfl) ?_
                                        refine lv_iload hx hb dL_law_1076 (lv_at hl 5 rfl) ?_
                                        refine lv_iconst (v := (4 : Int32)) hx hb dL_law_1078 (by decide) ?_
                                        refine lv_iadd hx hb dL_law_1079 ?_
                                        refine s_sld (n := n) (k := 4) C hw hX hbl hbA (nI_ad n 4) (by omega) hL h4 dL_law_1080 ?_
                                        refine lv_if_eq (tgt := 1088) hx hb dL_law_1081 (by decide) (fun hc => ?_) (fun hc => ?_)
                                        · replace hM := h_t hc hM
                                          refine lv_iconst (v := (0 : Int32)) hx hb dL_law_1088 (by decide) ?_
                                          refine lv_aload_n hx hb dL_law_1089 rfl (lv_at hl 1 rfl) ?_
                                          refine lv_iload hx hb dL_law_1090 (lv_at hl 5 rfl) ?_
                                          refine lv_iconst (v := (5 : Int32)) hx hb dL_law_1092 (by decide) ?_
                                          refine lv_iadd hx hb dL_law_1093 ?_
                                          refine s_sld (n := n) (k := 5) C hw hX hbl hbA (nI_ad n 5) (by omega) hL h5 dL_law_1094 ?_
                                          obtain ⟨r1095, hr1095, hM⟩ := h_b hM
                                          refine a_callV (σ' := aG r1095.2) (v := (some (.long r1095.1))) (As := fun ad => [.int a1, .int a2, .int (0 : Int32), .int (0 : Int32), .int a5]) (rest := []) (o := 109) C hw (c_X7_chance l hr1095) k_X7_chance wM_L_141 ⟨⟨rfl, rfl⟩, ⟨Nat.le_of_ble_eq_true rfl, Nat.le_of_ble_eq_true rfl⟩⟩ rfl (by decide) rfl rfl rfl hl rfl (Nat.le_of_ble_eq_true rfl) dL_law_1095 hcs (fun H locs hw => ?_)
                                          refine lv_lstore (lv' := [(6, .long r1095.1), (5, .int r1043.1), (0, .ref b), (1, .ref (ad 0)), (2, .ref (ad 109)), (3, .ref (ad 125)), (4, .int (nI n))]) hx hb dL_law_1098 hl (by decide) rfl (fun ls hl => ?_)
                                          refine lv_aload_n hx hb dL_law_1100 rfl (lv_at hl 4 rfl) ?_
                                          obtain ⟨r1101, hr1101, hM⟩ := h_b hM
                                          refine a_callV (σ' := aG r1101.2) (v := (some (.int r1101.1))) (As := fun ad => []) (rest := []) (o := 109) C hw (c_X7_thrown l hr1101) k_X7_thrown wM_L_91 ⟨⟨rfl, rfl⟩, ⟨Nat.le_of_ble_eq_true rfl, Nat.le_of_ble_eq_true rfl⟩⟩ rfl (by decide) rfl rfl rfl hl rfl (Nat.le_of_ble_eq_true rfl) dL_law_1101 hcs (fun H locs hw => ?_)
                                          refine lv_iload hx hb dL_law_1104 (lv_at hl 1 rfl) ?_
                                          refine lv_icmp_eq (tgt := 1111) hx hb dL_law_1106 (by decide) (fun hc => ?_) (fun hc => ?_)
                                          · replace hM := h_t hc hM
                                            refine lv_iload hx hb dL_law_1111 (lv_at hl 1 rfl) ?_
                                            refine lv_if_ne (tgt := 1127) hx hb dL_law_1113 (by decide) (fun hc => ?_) (fun hc => ?_)
                                            · replace hM := h_f hc hM
                                              refine lv_goto (tgt := 1526) hx hb dL_law_1127 (by decide) ?_
                                              refine lv_iinc (v := nI (n + 6)) (lv' := [(4, .int (nI (n + 6))), (6, .long r1095.1), (5, .int r1043.1), (0, .ref b), (1, .ref (ad 0)), (2, .ref (ad 109)), (3, .ref (ad 125))]) hx hb dL_law_1526 hl (k := 6) rfl (by rw [show Int32.ofInt 6 = nI 6 from by decide, nI_add]) (by decide) rfl (fun ls hl => ?_)
                                              refine lv_goto (tgt := 23) hx hb dL_law_1529 (by decide) ?_
                                              cases h_e hM
                                              exact hk hw (lv_sub hl [3, 4, 5, 6, 0] rfl)
                                            · replace hM := h_t hc hM
                                              refine lv_aload_n hx hb dL_law_1116 rfl (lv_at hl 5 rfl) ?_
                                              refine lv_iconst (v := (0 : Int32)) hx hb dL_law_1117 (by decide) ?_
                                              refine a_lald (σ := aG r1101.2) (o := 125) C hw rfl (aIn_v (by decide)) (show (0 : Int32).toNatClampNeg = 0 by decide) dL_law_1118 ?_
                                              refine lv_lload hx hb dL_law_1119 (lv_at hl 0 rfl) ?_
                                              refine W.lcmp hx hb dL_law_1121 ?_
                                              refine lv_if_eq (tgt := 1127) hx hb dL_law_1122 (by decide) (fun hc => ?_) (fun hc => ?_)
                                              · replace hM := h_t hc hM
                                                refine lv_goto (tgt := 1526) hx hb dL_law_1127 (by decide) ?_
                                                refine lv_iinc (v := nI (n + 6)) (lv' := [(4, .int (nI (n + 6))), (6, .long r1095.1), (5, .int r1043.1), (0, .ref b), (1, .ref (ad 0)), (2, .ref (ad 109)), (3, .ref (ad 125))]) hx hb dL_law_1526 hl (k := 6) rfl (by rw [show Int32.ofInt 6 = nI 6 from by decide, nI_add]) (by decide) rfl (fun ls hl => ?_)
                                                refine lv_goto (tgt := 23) hx hb dL_law_1529 (by decide) ?_
                                                cases h_e hM
                                                exact hk hw (lv_sub hl [3, 4, 5, 6, 0] rfl)
                                              · replace hM := h_f hc hM
                                                refine lv_iconst (v := (0 : Int32)) hx hb dL_law_1125 (by decide) ?_
                                                exact absurd (congrArg Prod.fst (h_e hM)) (by simp)
                                          · replace hM := h_f hc hM
                                            refine lv_iconst (v := (0 : Int32)) hx hb dL_law_1109 (by decide) ?_
                                            exact absurd (congrArg Prod.fst (h_e hM)) (by simp)
                                        · replace hM := h_f hc hM
                                          refine lv_iconst (v := (1 : Int32)) hx hb dL_law_1084 (by decide) ?_
                                          refine lv_goto (tgt := 1089) hx hb dL_law_1085 (by decide) ?_
                                          refine lv_aload_n hx hb dL_law_1089 rfl (lv_at hl 1 rfl) ?_
                                          refine lv_iload hx hb dL_law_1090 (lv_at hl 5 rfl) ?_
                                          refine lv_iconst (v := (5 : Int32)) hx hb dL_law_1092 (by decide) ?_
                                          refine lv_iadd hx hb dL_law_1093 ?_
                                          refine s_sld (n := n) (k := 5) C hw hX hbl hbA (nI_ad n 5) (by omega) hL h5 dL_law_1094 ?_
                                          obtain ⟨r1095, hr1095, hM⟩ := h_b hM
                                          refine a_callV (σ' := aG r1095.2) (v := (some (.long r1095.1))) (As := fun ad => [.int a1, .int a2, .int (0 : Int32), .int (1 : Int32), .int a5]) (rest := []) (o := 109) C hw (c_X7_chance l hr1095) k_X7_chance wM_L_141 ⟨⟨rfl, rfl⟩, ⟨Nat.le_of_ble_eq_true rfl, Nat.le_of_ble_eq_true rfl⟩⟩ rfl (by decide) rfl rfl rfl hl rfl (Nat.le_of_ble_eq_true rfl) dL_law_1095 hcs (fun H locs hw => ?_)
                                          refine lv_lstore (lv' := [(6, .long r1095.1), (5, .int r1043.1), (0, .ref b), (1, .ref (ad 0)), (2, .ref (ad 109)), (3, .ref (ad 125)), (4, .int (nI n))]) hx hb dL_law_1098 hl (by decide) rfl (fun ls hl => ?_)
                                          refine lv_aload_n hx hb dL_law_1100 rfl (lv_at hl 4 rfl) ?_
                                          obtain ⟨r1101, hr1101, hM⟩ := h_b hM
                                          refine a_callV (σ' := aG r1101.2) (v := (some (.int r1101.1))) (As := fun ad => []) (rest := []) (o := 109) C hw (c_X7_thrown l hr1101) k_X7_thrown wM_L_91 ⟨⟨rfl, rfl⟩, ⟨Nat.le_of_ble_eq_true rfl, Nat.le_of_ble_eq_true rfl⟩⟩ rfl (by decide) rfl rfl rfl hl rfl (Nat.le_of_ble_eq_true rfl) dL_law_1101 hcs (fun H locs hw => ?_)
                                          refine lv_iload hx hb dL_law_1104 (lv_at hl 1 rfl) ?_
                                          refine lv_icmp_eq (tgt := 1111) hx hb dL_law_1106 (by decide) (fun hc => ?_) (fun hc => ?_)
                                          · replace hM := h_t hc hM
                                            refine lv_iload hx hb dL_law_1111 (lv_at hl 1 rfl) ?_
                                            refine lv_if_ne (tgt := 1127) hx hb dL_law_1113 (by decide) (fun hc => ?_) (fun hc => ?_)
                                            · replace hM := h_f hc hM
                                              refine lv_goto (tgt := 1526) hx hb dL_law_1127 (by decide) ?_
                                              refine lv_iinc (v := nI (n + 6)) (lv' := [(4, .int (nI (n + 6))), (6, .long r1095.1), (5, .int r1043.1), (0, .ref b), (1, .ref (ad 0)), (2, .ref (ad 109)), (3, .ref (ad 125))]) hx hb dL_law_1526 hl (k := 6) rfl (by rw [show Int32.ofInt 6 = nI 6 from by decide, nI_add]) (by decide) rfl (fun ls hl => ?_)
                                              refine lv_goto (tgt := 23) hx hb dL_law_1529 (by decide) ?_
                                              cases h_e hM
                                              exact hk hw (lv_sub hl [3, 4, 5, 6, 0] rfl)
                                            · replace hM := h_t hc hM
                                              refine lv_aload_n hx hb dL_law_1116 rfl (lv_at hl 5 rfl) ?_
                                              refine lv_iconst (v := (0 : Int32)) hx hb dL_law_1117 (by decide) ?_
                                              refine a_lald (σ := aG r1101.2) (o := 125) C hw rfl (aIn_v (by decide)) (show (0 : Int32).toNatClampNeg = 0 by decide) dL_law_1118 ?_
                                              refine lv_lload hx hb dL_law_1119 (lv_at hl 0 rfl) ?_
                                              refine W.lcmp hx hb dL_law_1121 ?_
                                              refine lv_if_eq (tgt := 1127) hx hb dL_law_1122 (by decide) (fun hc => ?_) (fun hc => ?_)
                                              · replace hM := h_t hc hM
                                                refine lv_goto (tgt := 1526) hx hb dL_law_1127 (by decide) ?_
                                                refine lv_iinc (v := nI (n + 6)) (lv' := [(4, .int (nI (n + 6))), (6, .long r1095.1), (5, .int r1043.1), (0, .ref b), (1, .ref (ad 0)), (2, .ref (ad 109)), (3, .ref (ad 125))]) hx hb dL_law_1526 hl (k := 6) rfl (by rw [show Int32.ofInt 6 = nI 6 from by decide, nI_add]) (by decide) rfl (fun ls hl => ?_)
                                                refine lv_goto (tgt := 23) hx hb dL_law_1529 (by decide) ?_
                                                cases h_e hM
                                                exact hk hw (lv_sub hl [3, 4, 5, 6, 0] rfl)
                                              · replace hM := h_f hc hM
                                                refine lv_iconst (v := (0 : Int32)) hx hb dL_law_1125 (by decide) ?_
                                                exact absurd (congrArg Prod.fst (h_e hM)) (by simp)
                                          · replace hM := h_f hc hM
                                            refine lv_iconst (v := (0 : Int32)) hx hb dL_law_1109 (by decide) ?_
                                            exact absurd (congrArg Prod.fst (h_e hM)) (by simp)
                                      · replace hM := h_f hc hM
                                        refine lv_iconst (v := (1 : Int32)) hx hb dL_law_1070 (by decide) ?_
                                        refine lv_goto (tgt := 1075) hx hb dL_law_1071 (by decide) ?_
                                        refine lv_aload_n hx hb dL_law_1075 rfl (lv_at hl 1 rfl) ?_
                                        refine lv_iload hx hb dL_law_1076 (lv_at hl 5 rfl) ?_
                                        refine lv_iconst (v := (4 : Int32)) hx hb dL_law_1078 (by decide) ?_
                                        refine lv_iadd hx hb dL_law_1079 ?_
                                        refine s_sld (n := n) (k := 4) C hw hX hbl hbA (nI_ad n 4) (by omega) hL h4 dL_law_1080 ?_
                                        refine lv_if_eq (tgt := 1088) hx hb dL_law_1081 (by decide) (fun hc => ?_) (fun hc => ?_)
                                        · replace hM := h_t hc hM
                                          refine lv_iconst (v := (0 : Int32)) hx hb dL_law_1088 (by decide) ?_
                                          refine lv_aload_n hx hb dL_law_1089 rfl (lv_at hl 1 rfl) ?_
                                          refine lv_iload hx hb dL_law_1090 (lv_at hl 5 rfl) ?_
                                          refine lv_iconst (v := (5 : Int32)) hx hb dL_law_1092 (by decide) ?_
                                          refine lv_iadd hx hb dL_law_1093 ?_
                                          refine s_sld (n := n) (k := 5) C hw hX hbl hbA (nI_ad n 5) (by omega) hL h5 dL_law_1094 ?_
                                          obtain ⟨r1095, hr1095, hM⟩ := h_b hM
                                          refine a_callV (σ' := aG r1095.2) (v := (some (.long r1095.1))) (As := fun ad => [.int a1, .int a2, .int (1 : Int32), .int (0 : Int32), .int a5]) (rest := []) (o := 109) C hw (c_X7_chance l hr1095) k_X7_chance wM_L_141 ⟨⟨rfl, rfl⟩, ⟨Nat.le_of_ble_eq_true rfl, Nat.le_of_ble_eq_true rfl⟩⟩ rfl (by decide) rfl rfl rfl hl rfl (Nat.le_of_ble_eq_true rfl) dL_law_1095 hcs (fun H locs hw => ?_)
                                          refine lv_lstore (lv' := [(6, .long r1095.1), (5, .int r1043.1), (0, .ref b), (1, .ref (ad 0)), (2, .ref (ad 109)), (3, .ref (ad 125)), (4, .int (nI n))]) hx hb dL_law_1098 hl (by decide) rfl (fun ls hl => ?_)
                                          refine lv_aload_n hx hb dL_law_1100 rfl (lv_at hl 4 rfl) ?_
                                          obtain ⟨r1101, hr1101, hM⟩ := h_b hM
                                          refine a_callV (σ' := aG r1101.2) (v := (some (.int r1101.1))) (As := fun ad => []) (rest := []) (o := 109) C hw (c_X7_thrown l hr1101) k_X7_thrown wM_L_91 ⟨⟨rfl, rfl⟩, ⟨Nat.le_of_ble_eq_true rfl, Nat.le_of_ble_eq_true rfl⟩⟩ rfl (by decide) rfl rfl rfl hl rfl (Nat.le_of_ble_eq_true rfl) dL_law_1101 hcs (fun H locs hw => ?_)
                                          refine lv_iload hx hb dL_law_1104 (lv_at hl 1 rfl) ?_
                                          refine lv_icmp_eq (tgt := 1111) hx hb dL_law_1106 (by decide) (fun hc => ?_) (fun hc => ?_)
                                          · replace hM := h_t hc hM
                                            refine lv_iload hx hb dL_law_1111 (lv_at hl 1 rfl) ?_
                                            refine lv_if_ne (tgt := 1127) hx hb dL_law_1113 (by decide) (fun hc => ?_) (fun hc => ?_)
                                            · replace hM := h_f hc hM
                                              refine lv_goto (tgt := 1526) hx hb dL_law_1127 (by decide) ?_
                                              refine lv_iinc (v := nI (n + 6)) (lv' := [(4, .int (nI (n + 6))), (6, .long r1095.1), (5, .int r1043.1), (0, .ref b), (1, .ref (ad 0)), (2, .ref (ad 109)), (3, .ref (ad 125))]) hx hb dL_law_1526 hl (k := 6) rfl (by rw [show Int32.ofInt 6 = nI 6 from by decide, nI_add]) (by decide) rfl (fun ls hl => ?_)
                                              refine lv_goto (tgt := 23) hx hb dL_law_1529 (by decide) ?_
                                              cases h_e hM
                                              exact hk hw (lv_sub hl [3, 4, 5, 6, 0] rfl)
                                            · replace hM := h_t hc hM
                                              refine lv_aload_n hx hb dL_law_1116 rfl (lv_at hl 5 rfl) ?_
                                              refine lv_iconst (v := (0 : Int32)) hx hb dL_law_1117 (by decide) ?_
                                              refine a_lald (σ := aG r1101.2) (o := 125) C hw rfl (aIn_v (by decide)) (show (0 : Int32).toNatClampNeg = 0 by decide) dL_law_1118 ?_
                                              refine lv_lload hx hb dL_law_1119 (lv_at hl 0 rfl) ?_
                                              refine W.lcmp hx hb dL_law_1121 ?_
                                              refine lv_if_eq (tgt := 1127) hx hb dL_law_1122 (by decide) (fun hc => ?_) (fun hc => ?_)
                                              · replace hM := h_t hc hM
                                                refine lv_goto (tgt := 1526) hx hb dL_law_1127 (by decide) ?_
                                                refine lv_iinc (v := nI (n + 6)) (lv' := [(4, .int (nI (n + 6))), (6, .long r1095.1), (5, .int r1043.1), (0, .ref b), (1, .ref (ad 0)), (2, .ref (ad 109)), (3, .ref (ad 125))]) hx hb dL_law_1526 hl (k := 6) rfl (by rw [show Int32.ofInt 6 = nI 6 from by decide, nI_add]) (by decide) rfl (fun ls hl => ?_)
                                                refine lv_goto (tgt := 23) hx hb dL_law_1529 (by decide) ?_
                                                cases h_e hM
                                                exact hk hw (lv_sub hl [3, 4, 5, 6, 0] rfl)
                                              · replace hM := h_f hc hM
                                                refine lv_iconst (v := (0 : Int32)) hx hb dL_law_1125 (by decide) ?_
                                                exact absurd (congrArg Prod.fst (h_e hM)) (by simp)
                                          · replace hM := h_f hc hM
                                            refine lv_iconst (v := (0 : Int32)) hx hb dL_law_1109 (by decide) ?_
                                            exact absurd (congrArg Prod.fst (h_e hM)) (by simp)
                                        · replace hM := h_f hc hM
                                          refine lv_iconst (v := (1 : Int32)) hx hb dL_law_1084 (by decide) ?_
                                          refine lv_goto (tgt := 1089) hx hb dL_law_1085 (by decide) ?_
                                          refine lv_aload_n hx hb dL_law_1089 rfl (lv_at hl 1 rfl) ?_
                                          refine lv_iload hx hb dL_law_1090 (lv_at hl 5 rfl) ?_
                                          refine lv_iconst (v := (5 : Int32)) hx hb dL_law_1092 (by decide) ?_
                                          refine lv_iadd hx hb dL_law_1093 ?_
                                          refine s_sld (n := n) (k := 5) C hw hX hbl hbA (nI_ad n 5) (by omega) hL h5 dL_law_1094 ?_
                                          obtain ⟨r1095, hr1095, hM⟩ := h_b hM
                                          refine a_callV (σ' := aG r1095.2) (v := (some (.long r1095.1))) (As := fun ad => [.int a1, .int a2, .int (1 : Int32), .int (1 : Int32), .int a5]) (rest := []) (o := 109) C hw (c_X7_chance l hr1095) k_X7_chance wM_L_141 ⟨⟨rfl, rfl⟩, ⟨Nat.le_of_ble_eq_true rfl, Nat.le_of_ble_eq_true rfl⟩⟩ rfl (by decide) rfl rfl rfl hl rfl (Nat.le_of_ble_eq_true rfl) dL_law_1095 hcs (fun H locs hw => ?_)
                                          refine lv_lstore (lv' := [(6, .long r1095.1), (5, .int r1043.1), (0, .ref b), (1, .ref (ad 0)), (2, .ref (ad 109)), (3, .ref (ad 125)), (4, .int (nI n))]) hx hb dL_law_1098 hl (by decide) rfl (fun ls hl => ?_)
                                          refine lv_aload_n hx hb dL_law_1100 rfl (lv_at hl 4 rfl) ?_
                                          obtain ⟨r1101, hr1101, hM⟩ := h_b hM
                                          refine a_callV (σ' := aG r1101.2) (v := (some (.int r1101.1))) (As := fun ad => []) (rest := []) (o := 109) C hw (c_X7_thrown l hr1101) k_X7_thrown wM_L_91 ⟨⟨rfl, rfl⟩, ⟨Nat.le_of_ble_eq_true rfl, Nat.le_of_ble_eq_true rfl⟩⟩ rfl (by decide) rfl rfl rfl hl rfl (Nat.le_of_ble_eq_true rfl) dL_law_1101 hcs (fun H locs hw => ?_)
                                          refine lv_iload hx hb dL_law_1104 (lv_at hl 1 rfl) ?_
                                          refine lv_icmp_eq (tgt := 1111) hx hb dL_law_1106 (by decide) (fun hc => ?_) (fun hc => ?_)
                                          · replace hM := h_t hc hM
                                            refine lv_iload hx hb dL_law_1111 (lv_at hl 1 rfl) ?_
                                            refine lv_if_ne (tgt := 1127) hx hb dL_law_1113 (by decide) (fun hc => ?_) (fun hc => ?_)
                                            · replace hM := h_f hc hM
                                              refine lv_goto (tgt := 1526) hx hb dL_law_1127 (by decide) ?_
                                              refine lv_iinc (v := nI (n + 6)) (lv' := [(4, .int (nI (n + 6))), (6, .long r1095.1), (5, .int r1043.1), (0, .ref b), (1, .ref (ad 0)), (2, .ref (ad 109)), (3, .ref (ad 125))]) hx hb dL_law_1526 hl (k := 6) rfl (by rw [show Int32.ofInt 6 = nI 6 from by decide, nI_add]) (by decide) rfl (fun ls hl => ?_)
                                              refine lv_goto (tgt := 23) hx hb dL_law_1529 (by decide) ?_
                                              cases h_e hM
                                              exact hk hw (lv_sub hl [3, 4, 5, 6, 0] rfl)
                                            · replace hM := h_t hc hM
                                              refine lv_aload_n hx hb dL_law_1116 rfl (lv_at hl 5 rfl) ?_
                                              refine lv_iconst (v := (0 : Int32)) hx hb dL_law_1117 (by decide) ?_
                                              refine a_lald (σ := aG r1101.2) (o := 125) C hw rfl (aIn_v (by decide)) (show (0 : Int32).toNatClampNeg = 0 by decide) dL_law_1118 ?_
                                              refine lv_lload hx hb dL_law_1119 (lv_at hl 0 rfl) ?_
                                              refine W.lcmp hx hb dL_law_1121 ?_
                                              refine lv_if_eq (tgt := 1127) hx hb dL_law_1122 (by decide) (fun hc => ?_) (fun hc => ?_)
                                              · replace hM := h_t hc hM
                                                refine lv_goto (tgt := 1526) hx hb dL_law_1127 (by decide) ?_
                                                refine lv_iinc (v := nI (n + 6)) (lv' := [(4, .int (nI (n + 6))), (6, .long r1095.1), (5, .int r1043.1), (0, .ref b), (1, .ref (ad 0)), (2, .ref (ad 109)), (3, .ref (ad 125))]) hx hb dL_law_1526 hl (k := 6) rfl (by rw [show Int32.ofInt 6 = nI 6 from by decide, nI_add]) (by decide) rfl (fun ls hl => ?_)
                                                refine lv_goto (tgt := 23) hx hb dL_law_1529 (by decide) ?_
                                                cases h_e hM
                                                exact hk hw (lv_sub hl [3, 4, 5, 6, 0] rfl)
                                              · replace hM := h_f hc hM
                                                refine lv_iconst (v := (0 : Int32)) hx hb dL_law_1125 (by decide) ?_
                                                exact absurd (congrArg Prod.fst (h_e hM)) (by simp)
                                          · replace hM := h_f hc hM
                                            refine lv_iconst (v := (0 : Int32)) hx hb dL_law_1109 (by decide) ?_
                                            exact absurd (congrArg Prod.fst (h_e hM)) (by simp)
                                    · replace hM := h_f hc hM
                                      refine lv_iconst (v := (1 : Int32)) hx hb dL_law_1031 (by decide) ?_
                                      refine lv_goto (tgt := 1036) hx hb dL_law_1032 (by decide) ?_
                                      refine lv_aload_n hx hb dL_law_1036 rfl (lv_at hl 0 rfl) ?_
                                      refine lv_iload hx hb dL_law_1037 (lv_at hl 4 rfl) ?_
                                      refine lv_iconst (v := (5 : Int32)) hx hb dL_law_1039 (by decide) ?_
                                      refine lv_iadd hx hb dL_law_1040 ?_
                                      refine s_sld (n := n) (k := 5) C hw hX hbl hbA (nI_ad n 5) (by omega) hL h5 dL_law_1041 ?_
                                      refine lv_aload_n hx hb dL_law_1042 rfl (lv_at hl 3 rfl) ?_
                                      obtain ⟨r1043, hr1043, hM⟩ := h_b hM
                                      refine x_callW (σ' := aG r1043.2) (v := (some (.int r1043.1))) (as := fun ad => [.ref (ad 0), .int a1, .int a2, .int (0 : Int32), .int (1 : Int32), .int a5, .ref (ad 125)]) (rest := []) C hw (cw_chance l hst hr1043) kw_chance wM_L_138 ⟨Nat.le_of_ble_eq_true rfl, Nat.le_of_ble_eq_true rfl⟩ rfl hl rfl (Nat.le_of_ble_eq_true rfl) dL_law_1043 hcs (fun H locs hw => ?_)
                                      refine lv_istore (lv' := [(5, .int r1043.1), (0, .ref b), (1, .ref (ad 0)), (2, .ref (ad 109)), (3, .ref (ad 125)), (4, .int (nI n))]) hx hb dL_law_1046 hl (by decide) rfl (fun ls hl => ?_)
                                      refine lv_aload_n hx hb dL_law_1048 rfl (lv_at hl 3 rfl) ?_
                                      refine lv_aload_n hx hb dL_law_1049 rfl (lv_at hl 1 rfl) ?_
                                      refine lv_iload hx hb dL_law_1050 (lv_at hl 5 rfl) ?_
                                      refine lv_iconst (v := (1 : Int32)) hx hb dL_law_1052 (by decide) ?_
                                      refine lv_iadd hx hb dL_law_1053 ?_
                                      refine s_sld (n := n) (k := 1) C hw hX hbl hbA (nI_ad n 1) (by omega) hL h1 dL_law_1054 ?_
                                      refine lv_aload_n hx hb dL_law_1055 rfl (lv_at hl 1 rfl) ?_
                                      refine lv_iload hx hb dL_law_1056 (lv_at hl 5 rfl) ?_
                                      refine lv_iconst (v := (2 : Int32)) hx hb dL_law_1058 (by decide) ?_
                                      refine lv_iadd hx hb dL_law_1059 ?_
                                      refine s_sld (n := n) (k := 2) C hw hX hbl hbA (nI_ad n 2) (by omega) hL h2 dL_law_1060 ?_
                                      refine lv_aload_n hx hb dL_law_1061 rfl (lv_at hl 1 rfl) ?_
                                      refine lv_iload hx hb dL_law_1062 (lv_at hl 5 rfl) ?_
                                      refine lv_iconst (v := (3 : Int32)) hx hb dL_law_1064 (by decide) ?_
                                      refine lv_iadd hx hb dL_law_1065 ?_
                                      refine s_sld (n := n) (k := 3) C hw hX hbl hbA (nI_ad n 3) (by omega) hL h3 dL_law_1066 ?_
                                      refine lv_if_eq (tgt := 1074) hx hb dL_law_1067 (by decide) (fun hc => ?_) (fun hc => ?_)
                                      · replace hM := h_t hc hM
                                        refine lv_iconst (v := (0 : Int32)) hx hb dL_law_1074 (by decide) ?_
                                        refine lv_aload_n hx hb dL_law_1075 rfl (lv_at hl 1 rfl) ?_
                                        refine lv_iload hx hb dL_law_1076 (lv_at hl 5 rfl) ?_
                                        refine lv_iconst (v := (4 : Int32)) hx hb dL_law_1078 (by decide) ?_
                                        refine lv_iadd hx hb dL_law_1079 ?_
                                        refine s_sld (n := n) (k := 4) C hw hX hbl hbA (nI_ad n 4) (by omega) hL h4 dL_law_1080 ?_
                                        refine lv_if_eq (tgt := 1088) hx hb dL_law_1081 (by decide) (fun hc => ?_) (fun hc => ?_)
                                        · replace hM := h_t hc hM
                                          refine lv_iconst (v := (0 : Int32)) hx hb dL_law_1088 (by decide) ?_
                                          refine lv_aload_n hx hb dL_law_1089 rfl (lv_at hl 1 rfl) ?_
                                          refine lv_iload hx hb dL_law_1090 (lv_at hl 5 rfl) ?_
                                          refine lv_iconst (v := (5 : Int32)) hx hb dL_law_1092 (by decide) ?_
                                          refine lv_iadd hx hb dL_law_1093 ?_
                                          refine s_sld (n := n) (k := 5) C hw hX hbl hbA (nI_ad n 5) (by omega) hL h5 dL_law_1094 ?_
                                          obtain ⟨r1095, hr1095, hM⟩ := h_b hM
                                          refine a_callV (σ' := aG r1095.2) (v := (some (.long r1095.1))) (As := fun ad => [.int a1, .int a2, .int (0 : Int32), .int (0 : Int32), .int a5]) (rest := []) (o := 109) C hw (c_X7_chance l hr1095) k_X7_chance wM_L_141 ⟨⟨rfl, rfl⟩, ⟨Nat.le_of_ble_eq_true rfl, Nat.le_of_ble_eq_true rfl⟩⟩ rfl (by decide) rfl rfl rfl hl rfl (Nat.le_of_ble_eq_true rfl) dL_law_1095 hcs (fun H locs hw => ?_)
                                          refine lv_lstore (lv' := [(6, .long r1095.1), (5, .int r1043.1), (0, .ref b), (1, .ref (ad 0)), (2, .ref (ad 109)), (3, .ref (ad 125)), (4, .int (nI n))]) hx hb dL_law_1098 hl (by decide) rfl (fun ls hl => ?_)
                                          refine lv_aload_n hx hb dL_law_1100 rfl (lv_at hl 4 rfl) ?_
                                          obtain ⟨r1101, hr1101, hM⟩ := h_b hM
                                          refine a_callV (σ' := aG r1101.2) (v := (some (.int r1101.1))) (As := fun ad => []) (rest := []) (o := 109) C hw (c_X7_thrown l hr1101) k_X7_thrown wM_L_91 ⟨⟨rfl, rfl⟩, ⟨Nat.le_of_ble_eq_true rfl, Nat.le_of_ble_eq_true rfl⟩⟩ rfl (by decide) rfl rfl rfl hl rfl (Nat.le_of_ble_eq_true rfl) dL_law_1101 hcs (fun H locs hw => ?_)
                                          refine lv_iload hx hb dL_law_1104 (lv_at hl 1 rfl) ?_
                                          refine lv_icmp_eq (tgt := 1111) hx hb dL_law_1106 (by decide) (fun hc => ?_) (fun hc => ?_)
                                          · replace hM := h_t hc hM
                                            refine lv_iload hx hb dL_law_1111 (lv_at hl 1 rfl) ?_
                                            refine lv_if_ne (tgt := 1127) hx hb dL_law_1113 (by decide) (fun hc => ?_) (fun hc => ?_)
                                            · replace hM := h_f hc hM
                                              refine lv_goto (tgt := 1526) hx hb dL_law_1127 (by decide) ?_
                                              refine lv_iinc (v := nI (n + 6)) (lv' := [(4, .int (nI (n + 6))), (6, .long r1095.1), (5, .int r1043.1), (0, .ref b), (1, .ref (ad 0)), (2, .ref (ad 109)), (3, .ref (ad 125))]) hx hb dL_law_1526 hl (k := 6) rfl (by rw [show Int32.ofInt 6 = nI 6 from by decide, nI_add]) (by decide) rfl (fun ls hl => ?_)
                                              refine lv_goto (tgt := 23) hx hb dL_law_1529 (by decide) ?_
                                              cases h_e hM
                                              exact hk hw (lv_sub hl [3, 4, 5, 6, 0] rfl)
                                            · replace hM := h_t hc hM
                                              refine lv_aload_n hx hb dL_law_1116 rfl (lv_at hl 5 rfl) ?_
                                              refine lv_iconst (v := (0 : Int32)) hx hb dL_law_1117 (by decide) ?_
                                              refine a_lald (σ := aG r1101.2) (o := 125) C hw rfl (aIn_v (by decide)) (show (0 : Int32).toNatClampNeg = 0 by decide) dL_law_1118 ?_
                                              refine lv_lload hx hb dL_law_1119 (lv_at hl 0 rfl) ?_
                                              refine W.lcmp hx hb dL_law_1121 ?_
                                              refine lv_if_eq (tgt := 1127) hx hb dL_law_1122 (by decide) (fun hc => ?_) (fun hc => ?_)
                                              · replace hM := h_t hc hM
                                                refine lv_goto (tgt := 1526) hx hb dL_law_1127 (by decide) ?_
                                                refine lv_iinc (v := nI (n + 6)) (lv' := [(4, .int (nI (n + 6))), (6, .long r1095.1), (5, .int r1043.1), (0, .ref b), (1, .ref (ad 0)), (2, .ref (ad 109)), (3, .ref (ad 125))]) hx hb dL_law_1526 hl (k := 6) rfl (by rw [show Int32.ofInt 6 = nI 6 from by decide, nI_add]) (by decide) rfl (fun ls hl => ?_)
                                                refine lv_goto (tgt := 23) hx hb dL_law_1529 (by decide) ?_
                                                cases h_e hM
                                                exact hk hw (lv_sub hl [3, 4, 5, 6, 0] rfl)
                                              · replace hM := h_f hc hM
                                                refine lv_iconst (v := (0 : Int32)) hx hb dL_law_1125 (by decide) ?_
                                                exact absurd (congrArg Prod.fst (h_e hM)) (by simp)
                                          · replace hM := h_f hc hM
                                            refine lv_iconst (v := (0 : Int32)) hx hb dL_law_1109 (by decide) ?_
                                            exact absurd (congrArg Prod.fst (h_e hM)) (by simp)
                                        · replace hM := h_f hc hM
                                          refine lv_iconst (v := (1 : Int32)) hx hb dL_law_1084 (by decide) ?_
                                          refine lv_goto (tgt := 1089) hx hb dL_law_1085 (by decide) ?_
                                          refine lv_aload_n hx hb dL_law_1089 rfl (lv_at hl 1 rfl) ?_
                                          refine lv_iload hx hb dL_law_1090 (lv_at hl 5 rfl) ?_
                                          refine lv_iconst (v := (5 : Int32)) hx hb dL_law_1092 (by decide) ?_
                                          refine lv_iadd hx hb dL_law_1093 ?_
                                          refine s_sld (n := n) (k := 5) C hw hX hbl hbA (nI_ad n 5) (by omega) hL h5 dL_law_1094 ?_
                                          obtain ⟨r1095, hr1095, hM⟩ := h_b hM
                                          refine a_callV (σ' := aG r1095.2) (v := (some (.long r1095.1))) (As := fun ad => [.int a1, .int a2, .int (0 : Int32), .int (1 : Int32), .int a5]) (rest := []) (o := 109) C hw (c_X7_chance l hr1095) k_X7_chance wM_L_141 ⟨⟨rfl, rfl⟩, ⟨Nat.le_of_ble_eq_true rfl, Nat.le_of_ble_eq_true rfl⟩⟩ rfl (by decide) rfl rfl rfl hl rfl (Nat.le_of_ble_eq_true rfl) dL_law_1095 hcs (fun H locs hw => ?_)
                                          refine lv_lstore (lv' := [(6, .long r1095.1), (5, .int r1043.1), (0, .ref b), (1, .ref (ad 0)), (2, .ref (ad 109)), (3, .ref (ad 125)), (4, .int (nI n))]) hx hb dL_law_1098 hl (by decide) rfl (fun ls hl => ?_)
                                          refine lv_aload_n hx hb dL_law_1100 rfl (lv_at hl 4 rfl) ?_
                                          obtain ⟨r1101, hr1101, hM⟩ := h_b hM
                                          refine a_callV (σ' := aG r1101.2) (v := (some (.int r1101.1))) (As := fun ad => []) (rest := []) (o := 109) C hw (c_X7_thrown l hr1101) k_X7_thrown wM_L_91 ⟨⟨rfl, rfl⟩, ⟨Nat.le_of_ble_eq_true rfl, Nat.le_of_ble_eq_true rfl⟩⟩ rfl (by decide) rfl rfl rfl hl rfl (Nat.le_of_ble_eq_true rfl) dL_law_1101 hcs (fun H locs hw => ?_)
                                          refine lv_iload hx hb dL_law_1104 (lv_at hl 1 rfl) ?_
                                          refine lv_icmp_eq (tgt := 1111) hx hb dL_law_1106 (by decide) (fun hc => ?_) (fun hc => ?_)
                                          · replace hM := h_t hc hM
                                            refine lv_iload hx hb dL_law_1111 (lv_at hl 1 rfl) ?_
                                            refine lv_if_ne (tgt := 1127) hx hb dL_law_1113 (by decide) (fun hc => ?_) (fun hc => ?_)
                                            · replace hM := h_f hc hM
                                              refine lv_goto (tgt := 1526) hx hb dL_law_1127 (by decide) ?_
                                              refine lv_iinc (v := nI (n + 6)) (lv' := [(4, .int (nI (n + 6))), (6, .long r1095.1), (5, .int r1043.1), (0, .ref b), (1, .ref (ad 0)), (2, .ref (ad 109)), (3, .ref (ad 125))]) hx hb dL_law_1526 hl (k := 6) rfl (by rw [show Int32.ofInt 6 = nI 6 from by decide, nI_add]) (by decide) rfl (fun ls hl => ?_)
                                              refine lv_goto (tgt := 23) hx hb dL_law_1529 (by decide) ?_
                                              cases h_e hM
                                              exact hk hw (lv_sub hl [3, 4, 5, 6, 0] rfl)
                                            · replace hM := h_t hc hM
                                              refine lv_aload_n hx hb dL_law_1116 rfl (lv_at hl 5 rfl) ?_
                                              refine lv_iconst (v := (0 : Int32)) hx hb dL_law_1117 (by decide) ?_
                                              refine a_lald (σ := aG r1101.2) (o := 125) C hw rfl (aIn_v (by decide)) (show (0 : Int32).toNatClampNeg = 0 by decide) dL_law_1118 ?_
                                              refine lv_lload hx hb dL_law_1119 (lv_at hl 0 rfl) ?_
                                              refine W.lcmp hx hb dL_law_1121 ?_
                                              refine lv_if_eq (tgt := 1127) hx hb dL_law_1122 (by decide) (fun hc => ?_) (fun hc => ?_)
                                              · replace hM := h_t hc hM
                                                refine lv_goto (tgt := 1526) hx hb dL_law_1127 (by decide) ?_
                                                refine lv_iinc (v := nI (n + 6)) (lv' := [(4, .int (nI (n + 6))), (6, .long r1095.1), (5, .int r1043.1), (0, .ref b), (1, .ref (ad 0)), (2, .ref (ad 109)), (3, .ref (ad 125))]) hx hb dL_law_1526 hl (k := 6) rfl (by rw [show Int32.ofInt 6 = nI 6 from by decide, nI_add]) (by decide) rfl (fun ls hl => ?_)
                                                refine lv_goto (tgt := 23) hx hb dL_law_1529 (by decide) ?_
                                                cases h_e hM
                                                exact hk hw (lv_sub hl [3, 4, 5, 6, 0] rfl)
                                              · replace hM := h_f hc hM
                                                refine lv_iconst (v := (0 : Int32)) hx hb dL_law_1125 (by decide) ?_
                                                exact absurd (congrArg Prod.fst (h_e hM)) (by simp)
                                          · replace hM := h_f hc hM
                                            refine lv_iconst (v := (0 : Int32)) hx hb dL_law_1109 (by decide) ?_
                                            exact absurd (congrArg Prod.fst (h_e hM)) (by simp)
                                      · replace hM := h_f hc hM
                                        refine lv_iconst (v := (1 : Int32)) hx hb dL_law_1070 (by decide) ?_
                                        refine lv_goto (tgt := 1075) hx hb dL_law_1071 (by decide) ?_
                                        refine lv_aload_n hx hb dL_law_1075 rfl (lv_at hl 1 rfl) ?_
                                        refine lv_iload hx hb dL_law_1076 (lv_at hl 5 rfl) ?_
                                        refine lv_iconst (v := (4 : Int32)) hx hb dL_law_1078 (by decide) ?_
                                        refine lv_iadd hx hb dL_law_1079 ?_
                                        refine s_sld (n := n) (k := 4) C hw hX hbl hbA (nI_ad n 4) (by omega) hL h4 dL_law_1080 ?_
                                        refine lv_if_eq (tgt := 1088) hx hb dL_law_1081 (by decide) (fun hc => ?_) (fun hc => ?_)
                                        · replace hM := h_t hc hM
                                          refine lv_iconst (v := (0 : Int32)) hx hb dL_law_1088 (by decide) ?_
                                          refine lv_aload_n hx hb dL_law_1089 rfl (lv_at hl 1 rfl) ?_
                                          refine lv_iload hx hb dL_law_1090 (lv_at hl 5 rfl) ?_
                                          refine lv_iconst (v := (5 : Int32)) hx hb dL_law_1092 (by decide) ?_
                                          refine lv_iadd hx hb dL_law_1093 ?_
                                          refine s_sld (n := n) (k := 5) C hw hX hbl hbA (nI_ad n 5) (by omega) hL h5 dL_law_1094 ?_
                                          obtain ⟨r1095, hr1095, hM⟩ := h_b hM
                                          refine a_callV (σ' := aG r1095.2) (v := (some (.long r1095.1))) (As := fun ad => [.int a1, .int a2, .int (1 : Int32), .int (0 : Int32), .int a5]) (rest := []) (o := 109) C hw (c_X7_chance l hr1095) k_X7_chance wM_L_141 ⟨⟨rfl, rfl⟩, ⟨Nat.le_of_ble_eq_true rfl, Nat.le_of_ble_eq_true rfl⟩⟩ rfl (by decide) rfl rfl rfl hl rfl (Nat.le_of_ble_eq_true rfl) dL_law_1095 hcs (fun H locs hw => ?_)
                                          refine lv_lstore (lv' := [(6, .long r1095.1), (5, .int r1043.1), (0, .ref b), (1, .ref (ad 0)), (2, .ref (ad 109)), (3, .ref (ad 125)), (4, .int (nI n))]) hx hb dL_law_1098 hl (by decide) rfl (fun ls hl => ?_)
                                          refine lv_aload_n hx hb dL_law_1100 rfl (lv_at hl 4 rfl) ?_
                                          obtain ⟨r1101, hr1101, hM⟩ := h_b hM
                                          refine a_callV (σ' := aG r1101.2) (v := (some (.int r1101.1))) (As := fun ad => []) (rest := []) (o := 109) C hw (c_X7_thrown l hr1101) k_X7_thrown wM_L_91 ⟨⟨rfl, rfl⟩, ⟨Nat.le_of_ble_eq_true rfl, Nat.le_of_ble_eq_true rfl⟩⟩ rfl (by decide) rfl rfl rfl hl rfl (Nat.le_of_ble_eq_true rfl) dL_law_1101 hcs (fun H locs hw => ?_)
                                          refine lv_iload hx hb dL_law_1104 (lv_at hl 1 rfl) ?_
                                          refine lv_icmp_eq (tgt := 1111) hx hb dL_law_1106 (by decide) (fun hc => ?_) (fun hc => ?_)
                                          · replace hM := h_t hc hM
                                            refine lv_iload hx hb dL_law_1111 (lv_at hl 1 rfl) ?_
                                            refine lv_if_ne (tgt := 1127) hx hb dL_law_1113 (by decide) (fun hc => ?_) (fun hc => ?_)
                                            · replace hM := h_f hc hM
                                              refine lv_goto (tgt := 1526) hx hb dL_law_1127 (by decide) ?_
                                              refine lv_iinc (v := nI (n + 6)) (lv' := [(4, .int (nI (n + 6))), (6, .long r1095.1), (5, .int r1043.1), (0, .ref b), (1, .ref (ad 0)), (2, .ref (ad 109)), (3, .ref (ad 125))]) hx hb dL_law_1526 hl (k := 6) rfl (by rw [show Int32.ofInt 6 = nI 6 from by decide, nI_add]) (by decide) rfl (fun ls hl => ?_)
                                              refine lv_goto (tgt := 23) hx hb dL_law_1529 (by decide) ?_
                                              cases h_e hM
                                              exact hk hw (lv_sub hl [3, 4, 5, 6, 0] rfl)
                                            · replace hM := h_t hc hM
                                              refine lv_aload_n hx hb dL_law_1116 rfl (lv_at hl 5 rfl) ?_
                                              refine lv_iconst (v := (0 : Int32)) hx hb dL_law_1117 (by decide) ?_
                                              refine a_lald (σ := aG r1101.2) (o := 125) C hw rfl (aIn_v (by decide)) (show (0 : Int32).toNatClampNeg = 0 by decide) dL_law_1118 ?_
                                              refine lv_lload hx hb dL_law_1119 (lv_at hl 0 rfl) ?_
                                              refine W.lcmp hx hb dL_law_1121 ?_
                                              refine lv_if_eq (tgt := 1127) hx hb dL_law_1122 (by decide) (fun hc => ?_) (fun hc => ?_)
                                              · replace hM := h_t hc hM
                                                refine lv_goto (tgt := 1526) hx hb dL_law_1127 (by decide) ?_
                                                refine lv_iinc (v := nI (n + 6)) (lv' := [(4, .int (nI (n + 6))), (6, .long r1095.1), (5, .int r1043.1), (0, .ref b), (1, .ref (ad 0)), (2, .ref (ad 109)), (3, .ref (ad 125))]) hx hb dL_law_1526 hl (k := 6) rfl (by rw [show Int32.ofInt 6 = nI 6 from by decide, nI_add]) (by decide) rfl (fun ls hl => ?_)
                                                refine lv_goto (tgt := 23) hx hb dL_law_1529 (by decide) ?_
                                                cases h_e hM
                                                exact hk hw (lv_sub hl [3, 4, 5, 6, 0] rfl)
                                              · replace hM := h_f hc hM
                                                refine lv_iconst (v := (0 : Int32)) hx hb dL_law_1125 (by decide) ?_
                                                exact absurd (congrArg Prod.fst (h_e hM)) (by simp)
                                          · replace hM := h_f hc hM
                                            refine lv_iconst (v := (0 : Int32)) hx hb dL_law_1109 (by decide) ?_
                                            exact absurd (congrArg Prod.fst (h_e hM)) (by simp)
                                        · replace hM := h_f hc hM
                                          refine lv_iconst (v := (1 : Int32)) hx hb dL_law_1084 (by decide) ?_
                                          refine lv_goto (tgt := 1089) hx hb dL_law_1085 (by decide) ?_
                                          refine lv_aload_n hx hb dL_law_1089 rfl (lv_at hl 1 rfl) ?_
                                          refine lv_iload hx hb dL_law_1090 (lv_at hl 5 rfl) ?_
                                          refine lv_iconst (v := (5 : Int32)) hx hb dL_law_1092 (by decide) ?_
                                          refine lv_iadd hx hb dL_law_1093 ?_
                                          refine s_sld (n := n) (k := 5) C hw hX hbl hbA (nI_ad n 5) (by omega) hL h5 dL_law_1094 ?_
                                          obtain ⟨r1095, hr1095, hM⟩ := h_b hM
                                          refine a_callV (σ' := aG r1095.2) (v := (some (.long r1095.1))) (As := fun ad => [.int a1, .int a2, .int (1 : Int32), .int (1 : Int32), .int a5]) (rest := []) (o := 109) C hw (c_X7_chance l hr1095) k_X7_chance wM_L_141 ⟨⟨rfl, rfl⟩, ⟨Nat.le_of_ble_eq_true rfl, Nat.le_of_ble_eq_true rfl⟩⟩ rfl (by decide) rfl rfl rfl hl rfl (Nat.le_of_ble_eq_true rfl) dL_law_1095 hcs (fun H locs hw => ?_)
                                          refine lv_lstore (lv' := [(6, .long r1095.1), (5, .int r1043.1), (0, .ref b), (1, .ref (ad 0)), (2, .ref (ad 109)), (3, .ref (ad 125)), (4, .int (nI n))]) hx hb dL_law_1098 hl (by decide) rfl (fun ls hl => ?_)
                                          refine lv_aload_n hx hb dL_law_1100 rfl (lv_at hl 4 rfl) ?_
                                          obtain ⟨r1101, hr1101, hM⟩ := h_b hM
                                          refine a_callV (σ' := aG r1101.2) (v := (some (.int r1101.1))) (As := fun ad => []) (rest := []) (o := 109) C hw (c_X7_thrown l hr1101) k_X7_thrown wM_L_91 ⟨⟨rfl, rfl⟩, ⟨Nat.le_of_ble_eq_true rfl, Nat.le_of_ble_eq_true rfl⟩⟩ rfl (by decide) rfl rfl rfl hl rfl (Nat.le_of_ble_eq_true rfl) dL_law_1101 hcs (fun H locs hw => ?_)
                                          refine lv_iload hx hb dL_law_1104 (lv_at hl 1 rfl) ?_
                                          refine lv_icmp_eq (tgt := 1111) hx hb dL_law_1106 (by decide) (fun hc => ?_) (fun hc => ?_)
                                          · replace hM := h_t hc hM
                                            refine lv_iload hx hb dL_law_1111 (lv_at hl 1 rfl) ?_
                                            refine lv_if_ne (tgt := 1127) hx hb dL_law_1113 (by decide) (fun hc => ?_) (fun hc => ?_)
                                            · replace hM := h_f hc hM
                                              refine lv_goto (tgt := 1526) hx hb dL_law_1127 (by decide) ?_
                                              refine lv_iinc (v := nI (n + 6)) (lv' := [(4, .int (nI (n + 6))), (6, .long r1095.1), (5, .int r1043.1), (0, .ref b), (1, .ref (ad 0)), (2, .ref (ad 109)), (3, .ref (ad 125))]) hx hb dL_law_1526 hl (k := 6) rfl (by rw [show Int32.ofInt 6 = nI 6 from by decide, nI_add]) (by decide) rfl (fun ls hl => ?_)
                                              refine lv_goto (tgt := 23) hx hb dL_law_1529 (by decide) ?_
                                              cases h_e hM
                                              exact hk hw (lv_sub hl [3, 4, 5, 6, 0] rfl)
                                            · replace hM := h_t hc hM
                                              refine lv_aload_n hx hb dL_law_1116 rfl (lv_at hl 5 rfl) ?_
                                              refine lv_iconst (v := (0 : Int32)) hx hb dL_law_1117 (by decide) ?_
                                              refine a_lald (σ := aG r1101.2) (o := 125) C hw rfl (aIn_v (by decide)) (show (0 : Int32).toNatClampNeg = 0 by decide) dL_law_1118 ?_
                                              refine lv_lload hx hb dL_law_1119 (lv_at hl 0 rfl) ?_
                                              refine W.lcmp hx hb dL_law_1121 ?_
                                              refine lv_if_eq (tgt := 1127) hx hb dL_law_1122 (by decide) (fun hc => ?_) (fun hc => ?_)
                                              · replace hM := h_t hc hM
                                                refine lv_goto (tgt := 1526) hx hb dL_law_1127 (by decide) ?_
                                                refine lv_iinc (v := nI (n + 6)) (lv' := [(4, .int (nI (n + 6))), (6, .long r1095.1), (5, .int r1043.1), (0, .ref b), (1, .ref (ad 0)), (2, .ref (ad 109)), (3, .ref (ad 125))]) hx hb dL_law_1526 hl (k := 6) rfl (by rw [show Int32.ofInt 6 = nI 6 from by decide, nI_add]) (by decide) rfl (fun ls hl => ?_)
                                                refine lv_goto (tgt := 23) hx hb dL_law_1529 (by decide) ?_
                                                cases h_e hM
                                                exact hk hw (lv_sub hl [3, 4, 5, 6, 0] rfl)
                                              · replace hM := h_f hc hM
                                                refine lv_iconst (v := (0 : Int32)) hx hb dL_law_1125 (by decide) ?_
                                                exact absurd (congrArg Prod.fst (h_e hM)) (by simp)
                                          · replace hM := h_f hc hM
                                            refine lv_iconst (v := (0 : Int32)) hx hb dL_law_1109 (by decide) ?_
                                            exact absurd (congrArg Prod.fst (h_e hM)) (by simp)
                                  · replace hM := h_f hc hM
                                    refine lv_iconst (v := (1 : Int32)) hx hb dL_law_1017 (by decide) ?_
                                    refine lv_goto (tgt := 1022) hx hb dL_law_1018 (by decide) ?_
                                    refine lv_aload_n hx hb dL_law_1022 rfl (lv_at hl 0 rfl) ?_
                                    refine lv_iload hx hb dL_law_1023 (lv_at hl 4 rfl) ?_
                                    refine lv_iconst (v := (4 : Int32)) hx hb dL_law_1025 (by decide) ?_
                                    refine lv_iadd hx hb dL_law_1026 ?_
                                    refine s_sld (n := n) (k := 4) C hw hX hbl hbA (nI_ad n 4) (by omega) hL h4 dL_law_1027 ?_
                                    refine lv_if_eq (tgt := 1035) hx hb dL_law_1028 (by decide) (fun hc => ?_) (fun hc => ?_)
                                    · replace hM := h_t hc hM
                                      refine lv_iconst (v := (0 : Int32)) hx hb dL_law_1035 (by decide) ?_
                                      refine lv_aload_n hx hb dL_law_1036 rfl (lv_at hl 0 rfl) ?_
                                      refine lv_iload hx hb dL_law_1037 (lv_at hl 4 rfl) ?_
                                      refine lv_iconst (v := (5 : Int32)) hx hb dL_law_1039 (by decide) ?_
                                      refine lv_iadd hx hb dL_law_1040 ?_
                                      refine s_sld (n := n) (k := 5) C hw hX hbl hbA (nI_ad n 5) (by omega) hL h5 dL_law_1041 ?_
                                      refine lv_aload_n hx hb dL_law_1042 rfl (lv_at hl 3 rfl) ?_
                                      obtain ⟨r1043, hr1043, hM⟩ := h_b hM
                                      refine x_callW (σ' := aG r1043.2) (v := (some (.int r1043.1))) (as := fun ad => [.ref (ad 0), .int a1, .int a2, .int (1 : Int32), .int (0 : Int32), .int a5, .ref (ad 125)]) (rest := []) C hw (cw_chance l hst hr1043) kw_chance wM_L_138 ⟨Nat.le_of_ble_eq_true rfl, Nat.le_of_ble_eq_true rfl⟩ rfl hl rfl (Nat.le_of_ble_eq_true rfl) dL_law_1043 hcs (fun H locs hw => ?_)
                                      refine lv_istore (lv' := [(5, .int r1043.1), (0, .ref b), (1, .ref (ad 0)), (2, .ref (ad 109)), (3, .ref (ad 125)), (4, .int (nI n))]) hx hb dL_law_1046 hl (by decide) rfl (fun ls hl => ?_)
                                      refine lv_aload_n hx hb dL_law_1048 rfl (lv_at hl 3 rfl) ?_
                                      refine lv_aload_n hx hb dL_law_1049 rfl (lv_at hl 1 rfl) ?_
                                      refine lv_iload hx hb dL_law_1050 (lv_at hl 5 rfl) ?_
                                      refine lv_iconst (v := (1 : Int32)) hx hb dL_law_1052 (by decide) ?_
                                      refine lv_iadd hx hb dL_law_1053 ?_
                                      refine s_sld (n := n) (k := 1) C hw hX hbl hbA (nI_ad n 1) (by omega) hL h1 dL_law_1054 ?_
                                      refine lv_aload_n hx hb dL_law_1055 rfl (lv_at hl 1 rfl) ?_
                                      refine lv_iload hx hb dL_law_1056 (lv_at hl 5 rfl) ?_
                                      refine lv_iconst (v := (2 : Int32)) hx hb dL_law_1058 (by decide) ?_
                                      refine lv_iadd hx hb dL_law_1059 ?_
                                      refine s_sld (n := n) (k := 2) C hw hX hbl hbA (nI_ad n 2) (by omega) hL h2 dL_law_1060 ?_
                                      refine lv_aload_n hx hb dL_law_1061 rfl (lv_at hl 1 rfl) ?_
                                      refine lv_iload hx hb dL_law_1062 (lv_at hl 5 rfl) ?_
                                      refine lv_iconst (v := (3 : Int32)) hx hb dL_law_1064 (by decide) ?_
                                      refine lv_iadd hx hb dL_law_1065 ?_
                                      refine s_sld (n := n) (k := 3) C hw hX hbl hbA (nI_ad n 3) (by omega) hL h3 dL_law_1066 ?_
                                      refine lv_if_eq (tgt := 1074) hx hb dL_law_1067 (by decide) (fun hc => ?_) (fun hc => ?_)
                                      · replace hM := h_t hc hM
                                        refine lv_iconst (v := (0 : Int32)) hx hb dL_law_1074 (by decide) ?_
                                        refine lv_aload_n hx hb dL_law_1075 rfl (lv_at hl 1 rfl) ?_
                                        refine lv_iload hx hb dL_law_1076 (lv_at hl 5 rfl) ?_
                                        refine lv_iconst (v := (4 : Int32)) hx hb dL_law_1078 (by decide) ?_
                                        refine lv_iadd hx hb dL_law_1079 ?_
                                        refine s_sld (n := n) (k := 4) C hw hX hbl hbA (nI_ad n 4) (by omega) hL h4 dL_law_1080 ?_
                                        refine lv_if_eq (tgt := 1088) hx hb dL_law_1081 (by decide) (fun hc => ?_) (fun hc => ?_)
                                        · replace hM := h_t hc hM
                                          refine lv_iconst (v := (0 : Int32)) hx hb dL_law_1088 (by decide) ?_
                                          refine lv_aload_n hx hb dL_law_1089 rfl (lv_at hl 1 rfl) ?_
                                          refine lv_iload hx hb dL_law_1090 (lv_at hl 5 rfl) ?_
                                          refine lv_iconst (v := (5 : Int32)) hx hb dL_law_1092 (by decide) ?_
                                          refine lv_iadd hx hb dL_law_1093 ?_
                                          refine s_sld (n := n) (k := 5) C hw hX hbl hbA (nI_ad n 5) (by omega) hL h5 dL_law_1094 ?_
                                          obtain ⟨r1095, hr1095, hM⟩ := h_b hM
                                          refine a_callV (σ' := aG r1095.2) (v := (some (.long r1095.1))) (As := fun ad => [.int a1, .int a2, .int (0 : Int32), .int (0 : Int32), .int a5]) (rest := []) (o := 109) C hw (c_X7_chance l hr1095) k_X7_chance wM_L_141 ⟨⟨rfl, rfl⟩, ⟨Nat.le_of_ble_eq_true rfl, Nat.le_of_ble_eq_true rfl⟩⟩ rfl (by decide) rfl rfl rfl hl rfl (Nat.le_of_ble_eq_true rfl) dL_law_1095 hcs (fun H locs hw => ?_)
                                          refine lv_lstore (lv' := [(6, .long r1095.1), (5, .int r1043.1), (0, .ref b), (1, .ref (ad 0)), (2, .ref (ad 109)), (3, .ref (ad 125)), (4, .int (nI n))]) hx hb dL_law_1098 hl (by decide) rfl (fun ls hl => ?_)
                                          refine lv_aload_n hx hb dL_law_1100 rfl (lv_at hl 4 rfl) ?_
                                          obtain ⟨r1101, hr1101, hM⟩ := h_b hM
                                          refine a_callV (σ' := aG r1101.2) (v := (some (.int r1101.1))) (As := fun ad => []) (rest := []) (o := 109) C hw (c_X7_thrown l hr1101) k_X7_thrown wM_L_91 ⟨⟨rfl, rfl⟩, ⟨Nat.le_of_ble_eq_true rfl, Nat.le_of_ble_eq_true rfl⟩⟩ rfl (by decide) rfl rfl rfl hl rfl (Nat.le_of_ble_eq_true rfl) dL_law_1101 hcs (fun H locs hw => ?_)
                                          refine lv_iload hx hb dL_law_1104 (lv_at hl 1 rfl) ?_
                                          refine lv_icmp_eq (tgt := 1111) hx hb dL_law_1106 (by decide) (fun hc => ?_) (fun hc => ?_)
                                          · replace hM := h_t hc hM
                                            refine lv_iload hx hb dL_law_1111 (lv_at hl 1 rfl) ?_
                                            refine lv_if_ne (tgt := 1127) hx hb dL_law_1113 (by decide) (fun hc => ?_) (fun hc => ?_)
                                            · replace hM := h_f hc hM
                                              refine lv_goto (tgt := 1526) hx hb dL_law_1127 (by decide) ?_
                                              refine lv_iinc (v := nI (n + 6)) (lv' := [(4, .int (nI (n + 6))), (6, .long r1095.1), (5, .int r1043.1), (0, .ref b), (1, .ref (ad 0)), (2, .ref (ad 109)), (3, .ref (ad 125))]) hx hb dL_law_1526 hl (k := 6) rfl (by rw [show Int32.ofInt 6 = nI 6 from by decide, nI_add]) (by decide) rfl (fun ls hl => ?_)
                                              refine lv_goto (tgt := 23) hx hb dL_law_1529 (by decide) ?_
                                              cases h_e hM
                                              exact hk hw (lv_sub hl [3, 4, 5, 6, 0] rfl)
                                            · replace hM := h_t hc hM
                                              refine lv_aload_n hx hb dL_law_1116 rfl (lv_at hl 5 rfl) ?_
                                              refine lv_iconst (v := (0 : Int32)) hx hb dL_law_1117 (by decide) ?_
                                              refine a_lald (σ := aG r1101.2) (o := 125) C hw rfl (aIn_v (by decide)) (show (0 : Int32).toNatClampNeg = 0 by decide) dL_law_1118 ?_
                                              refine lv_lload hx hb dL_law_1119 (lv_at hl 0 rfl) ?_
                                              refine W.lcmp hx hb dL_law_1121 ?_
                                              refine lv_if_eq (tgt := 1127) hx hb dL_law_1122 (by decide) (fun hc => ?_) (fun hc => ?_)
                                              · replace hM := h_t hc hM
                                                refine lv_goto (tgt := 1526) hx hb dL_law_1127 (by decide) ?_
                                                refine lv_iinc (v := nI (n + 6)) (lv' := [(4, .int (nI (n + 6))), (6, .long r1095.1), (5, .int r1043.1), (0, .ref b), (1, .ref (ad 0)), (2, .ref (ad 109)), (3, .ref (ad 125))]) hx hb dL_law_1526 hl (k := 6) rfl (by rw [show Int32.ofInt 6 = nI 6 from by decide, nI_add]) (by decide) rfl (fun ls hl => ?_)
                                                refine lv_goto (tgt := 23) hx hb dL_law_1529 (by decide) ?_
                                                cases h_e hM
                                                exact hk hw (lv_sub hl [3, 4, 5, 6, 0] rfl)
                                              · replace hM := h_f hc hM
                                                refine lv_iconst (v := (0 : Int32)) hx hb dL_law_1125 (by decide) ?_
                                                exact absurd (congrArg Prod.fst (h_e hM)) (by simp)
                                          · replace hM := h_f hc hM
                                            refine lv_iconst (v := (0 : Int32)) hx hb dL_law_1109 (by decide) ?_
                                            exact absurd (congrArg Prod.fst (h_e hM)) (by simp)
                                        · replace hM := h_f hc hM
                                          refine lv_iconst (v := (1 : Int32)) hx hb dL_law_1084 (by decide) ?_
                                          refine lv_goto (tgt := 1089) hx hb dL_law_1085 (by decide) ?_
                                          refine lv_aload_n hx hb dL_law_1089 rfl (lv_at hl 1 rfl) ?_
                                          refine lv_iload hx hb dL_law_1090 (lv_at hl 5 rfl) ?_
                                          refine lv_iconst (v := (5 : Int32)) hx hb dL_law_1092 (by decide) ?_
                                          refine lv_iadd hx hb dL_law_1093 ?_
                                          refine s_sld (n := n) (k := 5) C hw hX hbl hbA (nI_ad n 5) (by omega) hL h5 dL_law_1094 ?_
                                          obtain ⟨r1095, hr1095, hM⟩ := h_b hM
                                          refine a_callV (σ' := aG r1095.2) (v := (some (.long r1095.1))) (As := fun ad => [.int a1, .int a2, .int (0 : Int32), .int (1 : Int32), .int a5]) (rest := []) (o := 109) C hw (c_X7_chance l hr1095) k_X7_chance wM_L_141 ⟨⟨rfl, rfl⟩, ⟨Nat.le_of_ble_eq_true rfl, Nat.le_of_ble_eq_true rfl⟩⟩ rfl (by decide) rfl rfl rfl hl rfl (Nat.le_of_ble_eq_true rfl) dL_law_1095 hcs (fun H locs hw => ?_)
                                          refine lv_lstore (lv' := [(6, .long r1095.1), (5, .int r1043.1), (0, .ref b), (1, .ref (ad 0)), (2, .ref (ad 109)), (3, .ref (ad 125)), (4, .int (nI n))]) hx hb dL_law_1098 hl (by decide) rfl (fun ls hl => ?_)
                                          refine lv_aload_n hx hb dL_law_1100 rfl (lv_at hl 4 rfl) ?_
                                          obtain ⟨r1101, hr1101, hM⟩ := h_b hM
                                          refine a_callV (σ' := aG r1101.2) (v := (some (.int r1101.1))) (As := fun ad => []) (rest := []) (o := 109) C hw (c_X7_thrown l hr1101) k_X7_thrown wM_L_91 ⟨⟨rfl, rfl⟩, ⟨Nat.le_of_ble_eq_true rfl, Nat.le_of_ble_eq_true rfl⟩⟩ rfl (by decide) rfl rfl rfl hl rfl (Nat.le_of_ble_eq_true rfl) dL_law_1101 hcs (fun H locs hw => ?_)
                                          refine lv_iload hx hb dL_law_1104 (lv_at hl 1 rfl) ?_
                                          refine lv_icmp_eq (tgt := 1111) hx hb dL_law_1106 (by decide) (fun hc => ?_) (fun hc => ?_)
                                          · replace hM := h_t hc hM
                                            refine lv_iload hx hb dL_law_1111 (lv_at hl 1 rfl) ?_
                                            refine lv_if_ne (tgt := 1127) hx hb dL_law_1113 (by decide) (fun hc => ?_) (fun hc => ?_)
                                            · replace hM := h_f hc hM
                                              refine lv_goto (tgt := 1526) hx hb dL_law_1127 (by decide) ?_
                                              refine lv_iinc (v := nI (n + 6)) (lv' := [(4, .int (nI (n + 6))), (6, .long r1095.1), (5, .int r1043.1), (0, .ref b), (1, .ref (ad 0)), (2, .ref (ad 109)), (3, .ref (ad 125))]) hx hb dL_law_1526 hl (k := 6) rfl (by rw [show Int32.ofInt 6 = nI 6 from by decide, nI_add]) (by decide) rfl (fun ls hl => ?_)
                                              refine lv_goto (tgt := 23) hx hb dL_law_1529 (by decide) ?_
                                              cases h_e hM
                                              exact hk hw (lv_sub hl [3, 4, 5, 6, 0] rfl)
                                            · replace hM := h_t hc hM
                                              refine lv_aload_n hx hb dL_law_1116 rfl (lv_at hl 5 rfl) ?_
                                              refine lv_iconst (v := (0 : Int32)) hx hb dL_law_1117 (by decide) ?_
                                              refine a_lald (σ := aG r1101.2) (o := 125) C hw rfl (aIn_v (by decide)) (show (0 : Int32).toNatClampNeg = 0 by decide) dL_law_1118 ?_
                                              refine lv_lload hx hb dL_law_1119 (lv_at hl 0 rfl) ?_
                                              refine W.lcmp hx hb dL_law_1121 ?_
                                              refine lv_if_eq (tgt := 1127) hx hb dL_law_1122 (by decide) (fun hc => ?_) (fun hc => ?_)
                                              · replace hM := h_t hc hM
                                                refine lv_goto (tgt := 1526) hx hb dL_law_1127 (by decide) ?_
                                                refine lv_iinc (v := nI (n + 6)) (lv' := [(4, .int (nI (n + 6))), (6, .long r1095.1), (5, .int r1043.1), (0, .ref b), (1, .ref (ad 0)), (2, .ref (ad 109)), (3, .ref (ad 125))]) hx hb dL_law_1526 hl (k := 6) rfl (by rw [show Int32.ofInt 6 = nI 6 from by decide, nI_add]) (by decide) rfl (fun ls hl => ?_)
                                                refine lv_goto (tgt := 23) hx hb dL_law_1529 (by decide) ?_
                                                cases h_e hM
                                                exact hk hw (lv_sub hl [3, 4, 5, 6, 0] rfl)
                                              · replace hM := h_f hc hM
                                                refine lv_iconst (v := (0 : Int32)) hx hb dL_law_1125 (by decide) ?_
                                                exact absurd (congrArg Prod.fst (h_e hM)) (by simp)
                                          · replace hM := h_f hc hM
                                            refine lv_iconst (v := (0 : Int32)) hx hb dL_law_1109 (by decide) ?_
                                            exact absurd (congrArg Prod.fst (h_e hM)) (by simp)
                                      · replace hM := h_f hc hM
                                        refine lv_iconst (v := (1 : Int32)) hx hb dL_law_1070 (by decide) ?_
                                        refine lv_goto (tgt := 1075) hx hb dL_law_1071 (by decide) ?_
                                        refine lv_aload_n hx hb dL_law_1075 rfl (lv_at hl 1 rfl) ?_
                                        refine lv_iload hx hb dL_law_1076 (lv_at hl 5 rfl) ?_
                                        refine lv_iconst (v := (4 : Int32)) hx hb dL_law_1078 (by decide) ?_
                                        refine lv_iadd hx hb dL_law_1079 ?_
                                        refine s_sld (n := n) (k := 4) C hw hX hbl hbA (nI_ad n 4) (by omega) hL h4 dL_law_1080 ?_
                                        refine lv_if_eq (tgt := 1088) hx hb dL_law_1081 (by decide) (fun hc => ?_) (fun hc => ?_)
                                        · replace hM := h_t hc hM
                                          refine lv_iconst (v := (0 : Int32)) hx hb dL_law_1088 (by decide) ?_
                                          refine lv_aload_n hx hb dL_law_1089 rfl (lv_at hl 1 rfl) ?_
                                          refine lv_iload hx hb dL_law_1090 (lv_at hl 5 rfl) ?_
                                          refine lv_iconst (v := (5 : Int32)) hx hb dL_law_1092 (by decide) ?_
                                          refine lv_iadd hx hb dL_law_1093 ?_
                                          refine s_sld (n := n) (k := 5) C hw hX hbl hbA (nI_ad n 5) (by omega) hL h5 dL_law_1094 ?_
                                          obtain ⟨r1095, hr1095, hM⟩ := h_b hM
                                          refine a_callV (σ' := aG r1095.2) (v := (some (.long r1095.1))) (As := fun ad => [.int a1, .int a2, .int (1 : Int32), .int (0 : Int32), .int a5]) (rest := []) (o := 109) C hw (c_X7_chance l hr1095) k_X7_chance wM_L_141 ⟨⟨rfl, rfl⟩, ⟨Nat.le_of_ble_eq_true rfl, Nat.le_of_ble_eq_true rfl⟩⟩ rfl (by decide) rfl rfl rfl hl rfl (Nat.le_of_ble_eq_true rfl) dL_law_1095 hcs (fun H locs hw => ?_)
                                          refine lv_lstore (lv' := [(6, .long r1095.1), (5, .int r1043.1), (0, .ref b), (1, .ref (ad 0)), (2, .ref (ad 109)), (3, .ref (ad 125)), (4, .int (nI n))]) hx hb dL_law_1098 hl (by decide) rfl (fun ls hl => ?_)
                                          refine lv_aload_n hx hb dL_law_1100 rfl (lv_at hl 4 rfl) ?_
                                          obtain ⟨r1101, hr1101, hM⟩ := h_b hM
                                          refine a_callV (σ' := aG r1101.2) (v := (some (.int r1101.1))) (As := fun ad => []) (rest := []) (o := 109) C hw (c_X7_thrown l hr1101) k_X7_thrown wM_L_91 ⟨⟨rfl, rfl⟩, ⟨Nat.le_of_ble_eq_true rfl, Nat.le_of_ble_eq_true rfl⟩⟩ rfl (by decide) rfl rfl rfl hl rfl (Nat.le_of_ble_eq_true rfl) dL_law_1101 hcs (fun H locs hw => ?_)
                                          refine lv_iload hx hb dL_law_1104 (lv_at hl 1 rfl) ?_
                                          refine lv_icmp_eq (tgt := 1111) hx hb dL_law_1106 (by decide) (fun hc => ?_) (fun hc => ?_)
                                          · replace hM := h_t hc hM
                                            refine lv_iload hx hb dL_law_1111 (lv_at hl 1 rfl) ?_
                                            refine lv_if_ne (tgt := 1127) hx hb dL_law_1113 (by decide) (fun hc => ?_) (fun hc => ?_)
                                            · replace hM := h_f hc hM
                                              refine lv_goto (tgt := 1526) hx hb dL_law_1127 (by decide) ?_
                                              refine lv_iinc (v := nI (n + 6)) (lv' := [(4, .int (nI (n + 6))), (6, .long r1095.1), (5, .int r1043.1), (0, .ref b), (1, .ref (ad 0)), (2, .ref (ad 109)), (3, .ref (ad 125))]) hx hb dL_law_1526 hl (k := 6) rfl (by rw [show Int32.ofInt 6 = nI 6 from by decide, nI_add]) (by decide) rfl (fun ls hl => ?_)
                                              refine lv_goto (tgt := 23) hx hb dL_law_1529 (by decide) ?_
                                              cases h_e hM
                                              exact hk hw (lv_sub hl [3, 4, 5, 6, 0] rfl)
                                            · replace hM := h_t hc hM
                                              refine lv_aload_n hx hb dL_law_1116 rfl (lv_at hl 5 rfl) ?_
                                              refine lv_iconst (v := (0 : Int32)) hx hb dL_law_1117 (by decide) ?_
                                              refine a_lald (σ := aG r1101.2) (o := 125) C hw rfl (aIn_v (by decide)) (show (0 : Int32).toNatClampNeg = 0 by decide) dL_law_1118 ?_
                                              refine lv_lload hx hb dL_law_1119 (lv_at hl 0 rfl) ?_
                                              refine W.lcmp hx hb dL_law_1121 ?_
                                              refine lv_if_eq (tgt := 1127) hx hb dL_law_1122 (by decide) (fun hc => ?_) (fun hc => ?_)
                                              · replace hM := h_t hc hM
                                                refine lv_goto (tgt := 1526) hx hb dL_law_1127 (by decide) ?_
                                                refine lv_iinc (v := nI (n + 6)) (lv' := [(4, .int (nI (n + 6))), (6, .long r1095.1), (5, .int r1043.1), (0, .ref b), (1, .ref (ad 0)), (2, .ref (ad 109)), (3, .ref (ad 125))]) hx hb dL_law_1526 hl (k := 6) rfl (by rw [show Int32.ofInt 6 = nI 6 from by decide, nI_add]) (by decide) rfl (fun ls hl => ?_)
                                                refine lv_goto (tgt := 23) hx hb dL_law_1529 (by decide) ?_
                                                cases h_e hM
                                                exact hk hw (lv_sub hl [3, 4, 5, 6, 0] rfl)
                                              · replace hM := h_f hc hM
                                                refine lv_iconst (v := (0 : Int32)) hx hb dL_law_1125 (by decide) ?_
                                                exact absurd (congrArg Prod.fst (h_e hM)) (by simp)
                                          · replace hM := h_f hc hM
                                            refine lv_iconst (v := (0 : Int32)) hx hb dL_law_1109 (by decide) ?_
                                            exact absurd (congrArg Prod.fst (h_e hM)) (by simp)
                                        · replace hM := h_f hc hM
                                          refine lv_iconst (v := (1 : Int32)) hx hb dL_law_1084 (by decide) ?_
                                          refine lv_goto (tgt := 1089) hx hb dL_law_1085 (by decide) ?_
                                          refine lv_aload_n hx hb dL_law_1089 rfl (lv_at hl 1 rfl) ?_
                                          refine lv_iload hx hb dL_law_1090 (lv_at hl 5 rfl) ?_
                                          refine lv_iconst (v := (5 : Int32)) hx hb dL_law_1092 (by decide) ?_
                                          refine lv_iadd hx hb dL_law_1093 ?_
                                          refine s_sld (n := n) (k := 5) C hw hX hbl hbA (nI_ad n 5) (by omega) hL h5 dL_law_1094 ?_
                                          obtain ⟨r1095, hr1095, hM⟩ := h_b hM
                                          refine a_callV (σ' := aG r1095.2) (v := (some (.long r1095.1))) (As := fun ad => [.int a1, .int a2, .int (1 : Int32), .int (1 : Int32), .int a5]) (rest := []) (o := 109) C hw (c_X7_chance l hr1095) k_X7_chance wM_L_141 ⟨⟨rfl, rfl⟩, ⟨Nat.le_of_ble_eq_true rfl, Nat.le_of_ble_eq_true rfl⟩⟩ rfl (by decide) rfl rfl rfl hl rfl (Nat.le_of_ble_eq_true rfl) dL_law_1095 hcs (fun H locs hw => ?_)
                                          refine lv_lstore (lv' := [(6, .long r1095.1), (5, .int r1043.1), (0, .ref b), (1, .ref (ad 0)), (2, .ref (ad 109)), (3, .ref (ad 125)), (4, .int (nI n))]) hx hb dL_law_1098 hl (by decide) rfl (fun ls hl => ?_)
                                          refine lv_aload_n hx hb dL_law_1100 rfl (lv_at hl 4 rfl) ?_
                                          obtain ⟨r1101, hr1101, hM⟩ := h_b hM
                                          refine a_callV (σ' := aG r1101.2) (v := (some (.int r1101.1))) (As := fun ad => []) (rest := []) (o := 109) C hw (c_X7_thrown l hr1101) k_X7_thrown wM_L_91 ⟨⟨rfl, rfl⟩, ⟨Nat.le_of_ble_eq_true rfl, Nat.le_of_ble_eq_true rfl⟩⟩ rfl (by decide) rfl rfl rfl hl rfl (Nat.le_of_ble_eq_true rfl) dL_law_1101 hcs (fun H locs hw => ?_)
                                          refine lv_iload hx hb dL_law_1104 (lv_at hl 1 rfl) ?_
                                          refine lv_icmp_eq (tgt := 1111) hx hb dL_law_1106 (by decide) (fun hc => ?_) (fun hc => ?_)
                                          · replace hM := h_t hc hM
                                            refine lv_iload hx hb dL_law_1111 (lv_at hl 1 rfl) ?_
                                            refine lv_if_ne (tgt := 1127) hx hb dL_law_1113 (by decide) (fun hc => ?_) (fun hc => ?_)
                                            · replace hM := h_f hc hM
                                              refine lv_goto (tgt := 1526) hx hb dL_law_1127 (by decide) ?_
                                              refine lv_iinc (v := nI (n + 6)) (lv' := [(4, .int (nI (n + 6))), (6, .long r1095.1), (5, .int r1043.1), (0, .ref b), (1, .ref (ad 0)), (2, .ref (ad 109)), (3, .ref (ad 125))]) hx hb dL_law_1526 hl (k := 6) rfl (by rw [show Int32.ofInt 6 = nI 6 from by decide, nI_add]) (by decide) rfl (fun ls hl => ?_)
                                              refine lv_goto (tgt := 23) hx hb dL_law_1529 (by decide) ?_
                                              cases h_e hM
                                              exact hk hw (lv_sub hl [3, 4, 5, 6, 0] rfl)
                                            · replace hM := h_t hc hM
                                              refine lv_aload_n hx hb dL_law_1116 rfl (lv_at hl 5 rfl) ?_
                                              refine lv_iconst (v := (0 : Int32)) hx hb dL_law_1117 (by decide) ?_
                                              refine a_lald (σ := aG r1101.2) (o := 125) C hw rfl (aIn_v (by decide)) (show (0 : Int32).toNatClampNeg = 0 by decide) dL_law_1118 ?_
                                              refine lv_lload hx hb dL_law_1119 (lv_at hl 0 rfl) ?_
                                              refine W.lcmp hx hb dL_law_1121 ?_
                                              refine lv_if_eq (tgt := 1127) hx hb dL_law_1122 (by decide) (fun hc => ?_) (fun hc => ?_)
                                              · replace hM := h_t hc hM
                                                refine lv_goto (tgt := 1526) hx hb dL_law_1127 (by decide) ?_
                                                refine lv_iinc (v := nI (n + 6)) (lv' := [(4, .int (nI (n + 6))), (6, .long r1095.1), (5, .int r1043.1), (0, .ref b), (1, .ref (ad 0)), (2, .ref (ad 109)), (3, .ref (ad 125))]) hx hb dL_law_1526 hl (k := 6) rfl (by rw [show Int32.ofInt 6 = nI 6 from by decide, nI_add]) (by decide) rfl (fun ls hl => ?_)
                                                refine lv_goto (tgt := 23) hx hb dL_law_1529 (by decide) ?_
                                                cases h_e hM
                                                exact hk hw (lv_sub hl [3, 4, 5, 6, 0] rfl)
                                              · replace hM := h_f hc hM
                                                refine lv_iconst (v := (0 : Int32)) hx hb dL_law_1125 (by decide) ?_
                                                exact absurd (congrArg Prod.fst (h_e hM)) (by simp)
                                          · replace hM := h_f hc hM
                                            refine lv_iconst (v := (0 : Int32)) hx hb dL_law_1109 (by decide) ?_
                                            exact absurd (congrArg Prod.fst (h_e hM)) (by simp)
                                    · replace hM := h_f hc hM
                                      refine lv_iconst (v := (1 : Int32)) hx hb dL_law_1031 (by decide) ?_
                                      refine lv_goto (tgt := 1036) hx hb dL_law_1032 (by decide) ?_
                                      refine lv_aload_n hx hb dL_law_1036 rfl (lv_at hl 0 rfl) ?_
                                      refine lv_iload hx hb dL_law_1037 (lv_at hl 4 rfl) ?_
                                      refine lv_iconst (v := (5 : Int32)) hx hb dL_law_1039 (by decide) ?_
                                      refine lv_iadd hx hb dL_law_1040 ?_
                                      refine s_sld (n := n) (k := 5) C hw hX hbl hbA (nI_ad n 5) (by omega) hL h5 dL_law_1041 ?_
                                      refine lv_aload_n hx hb dL_law_1042 rfl (lv_at hl 3 rfl) ?_
                                      obtain ⟨r1043, hr1043, hM⟩ := h_b hM
                                      refine x_callW (σ' := aG r1043.2) (v := (some (.int r1043.1))) (as := fun ad => [.ref (ad 0), .int a1, .int a2, .int (1 : Int32), .int (1 : Int32), .int a5, .ref (ad 125)]) (rest := []) C hw (cw_chance l hst hr1043) kw_chance wM_L_138 ⟨Nat.le_of_ble_eq_true rfl, Nat.le_of_ble_eq_true rfl⟩ rfl hl rfl (Nat.le_of_ble_eq_true rfl) dL_law_1043 hcs (fun H locs hw => ?_)
                                      refine lv_istore (lv' := [(5, .int r1043.1), (0, .ref b), (1, .ref (ad 0)), (2, .ref (ad 109)), (3, .ref (ad 125)), (4, .int (nI n))]) hx hb dL_law_1046 hl (by decide) rfl (fun ls hl => ?_)
                                      refine lv_aload_n hx hb dL_law_1048 rfl (lv_at hl 3 rfl) ?_
                                      refine lv_aload_n hx hb dL_law_1049 rfl (lv_at hl 1 rfl) ?_
                                      refine lv_iload hx hb dL_law_1050 (lv_at hl 5 rfl) ?_
                                      refine lv_iconst (v := (1 : Int32)) hx hb dL_law_1052 (by decide) ?_
                                      refine lv_iadd hx hb dL_law_1053 ?_
                                      refine s_sld (n := n) (k := 1) C hw hX hbl hbA (nI_ad n 1) (by omega) hL h1 dL_law_1054 ?_
                                      refine lv_aload_n hx hb dL_law_1055 rfl (lv_at hl 1 rfl) ?_
                                      refine lv_iload hx hb dL_law_1056 (lv_at hl 5 rfl) ?_
                                      refine lv_iconst (v := (2 : Int32)) hx hb dL_law_1058 (by decide) ?_
                                      refine lv_iadd hx hb dL_law_1059 ?_
                                      refine s_sld (n := n) (k := 2) C hw hX hbl hbA (nI_ad n 2) (by omega) hL h2 dL_law_1060 ?_
                                      refine lv_aload_n hx hb dL_law_1061 rfl (lv_at hl 1 rfl) ?_
                                      refine lv_iload hx hb dL_law_1062 (lv_at hl 5 rfl) ?_
                                      refine lv_iconst (v := (3 : Int32)) hx hb dL_law_1064 (by decide) ?_
                                      refine lv_iadd hx hb dL_law_1065 ?_
                                      refine s_sld (n := n) (k := 3) C hw hX hbl hbA (nI_ad n 3) (by omega) hL h3 dL_law_1066 ?_
                                      refine lv_if_eq (tgt := 1074) hx hb dL_law_1067 (by decide) (fun hc => ?_) (fun hc => ?_)
                                      · replace hM := h_t hc hM
                                        refine lv_iconst (v := (0 : Int32)) hx hb dL_law_1074 (by decide) ?_
                                        refine lv_aload_n hx hb dL_law_1075 rfl (lv_at hl 1 rfl) ?_
                                        refine lv_iload hx hb dL_law_1076 (lv_at hl 5 rfl) ?_
                                        refine lv_iconst (v := (4 : Int32)) hx hb dL_law_1078 (by decide) ?_
                                        refine lv_iadd hx hb dL_law_1079 ?_
                                        refine s_sld (n := n) (k := 4) C hw hX hbl hbA (nI_ad n 4) (by omega) hL h4 dL_law_1080 ?_
                                        refine lv_if_eq (tgt := 1088) hx hb dL_law_1081 (by decide) (fun hc => ?_) (fun hc => ?_)
                                        · replace hM := h_t hc hM
                                          refine lv_iconst (v := (0 : Int32)) hx hb dL_law_1088 (by decide) ?_
                                          refine lv_aload_n hx hb dL_law_1089 rfl (lv_at hl 1 rfl) ?_
                                          refine lv_iload hx hb dL_law_1090 (lv_at hl 5 rfl) ?_
                                          refine lv_iconst (v := (5 : Int32)) hx hb dL_law_1092 (by decide) ?_
                                          refine lv_iadd hx hb dL_law_1093 ?_
                                          refine s_sld (n := n) (k := 5) C hw hX hbl hbA (nI_ad n 5) (by omega) hL h5 dL_law_1094 ?_
                                          obtain ⟨r1095, hr1095, hM⟩ := h_b hM
                                          refine a_callV (σ' := aG r1095.2) (v := (some (.long r1095.1))) (As := fun ad => [.int a1, .int a2, .int (0 : Int32), .int (0 : Int32), .int a5]) (rest := []) (o := 109) C hw (c_X7_chance l hr1095) k_X7_chance wM_L_141 ⟨⟨rfl, rfl⟩, ⟨Nat.le_of_ble_eq_true rfl, Nat.le_of_ble_eq_true rfl⟩⟩ rfl (by decide) rfl rfl rfl hl rfl (Nat.le_of_ble_eq_true rfl) dL_law_1095 hcs (fun H locs hw => ?_)
                                          refine lv_lstore (lv' := [(6, .long r1095.1), (5, .int r1043.1), (0, .ref b), (1, .ref (ad 0)), (2, .ref (ad 109)), (3, .ref (ad 125)), (4, .int (nI n))]) hx hb dL_law_1098 hl (by decide) rfl (fun ls hl => ?_)
                                          refine lv_aload_n hx hb dL_law_1100 rfl (lv_at hl 4 rfl) ?_
                                          obtain ⟨r1101, hr1101, hM⟩ := h_b hM
                                          refine a_callV (σ' := aG r1101.2) (v := (some (.int r1101.1))) (As := fun ad => []) (rest := []) (o := 109) C hw (c_X7_thrown l hr1101) k_X7_thrown wM_L_91 ⟨⟨rfl, rfl⟩, ⟨Nat.le_of_ble_eq_true rfl, Nat.le_of_ble_eq_true rfl⟩⟩ rfl (by decide) rfl rfl rfl hl rfl (Nat.le_of_ble_eq_true rfl) dL_law_1101 hcs (fun H locs hw => ?_)
                                          refine lv_iload hx hb dL_law_1104 (lv_at hl 1 rfl) ?_
                                          refine lv_icmp_eq (tgt := 1111) hx hb dL_law_1106 (by decide) (fun hc => ?_) (fun hc => ?_)
                                          · replace hM := h_t hc hM
                                            refine lv_iload hx hb dL_law_1111 (lv_at hl 1 rfl) ?_
                                            refine lv_if_ne (tgt := 1127) hx hb dL_law_1113 (by decide) (fun hc => ?_) (fun hc => ?_)
                                            · replace hM := h_f hc hM
                                              refine lv_goto (tgt := 1526) hx hb dL_law_1127 (by decide) ?_
                                              refine lv_iinc (v := nI (n + 6)) (lv' := [(4, .int (nI (n + 6))), (6, .long r1095.1), (5, .int r1043.1), (0, .ref b), (1, .ref (ad 0)), (2, .ref (ad 109)), (3, .ref (ad 125))]) hx hb dL_law_1526 hl (k := 6) rfl (by rw [show Int32.ofInt 6 = nI 6 from by decide, nI_add]) (by decide) rfl (fun ls hl => ?_)
                                              refine lv_goto (tgt := 23) hx hb dL_law_1529 (by decide) ?_
                                              cases h_e hM
                                              exact hk hw (lv_sub hl [3, 4, 5, 6, 0] rfl)
                                            · replace hM := h_t hc hM
                                              refine lv_aload_n hx hb dL_law_1116 rfl (lv_at hl 5 rfl) ?_
                                              refine lv_iconst (v := (0 : Int32)) hx hb dL_law_1117 (by decide) ?_
                                              refine a_lald (σ := aG r1101.2) (o := 125) C hw rfl (aIn_v (by decide)) (show (0 : Int32).toNatClampNeg = 0 by decide) dL_law_1118 ?_
                                              refine lv_lload hx hb dL_law_1119 (lv_at hl 0 rfl) ?_
                                              refine W.lcmp hx hb dL_law_1121 ?_
                                              refine lv_if_eq (tgt := 1127) hx hb dL_law_1122 (by decide) (fun hc => ?_) (fun hc => ?_)
                                              · replace hM := h_t hc hM
                                                refine lv_goto (tgt := 1526) hx hb dL_law_1127 (by decide) ?_
                                                refine lv_iinc (v := nI (n + 6)) (lv' := [(4, .int (nI (n + 6))), (6, .long r1095.1), (5, .int r1043.1), (0, .ref b), (1, .ref (ad 0)), (2, .ref (ad 109)), (3, .ref (ad 125))]) hx hb dL_law_1526 hl (k := 6) rfl (by rw [show Int32.ofInt 6 = nI 6 from by decide, nI_add]) (by decide) rfl (fun ls hl => ?_)
                                                refine lv_goto (tgt := 23) hx hb dL_law_1529 (by decide) ?_
                                                cases h_e hM
                                                exact hk hw (lv_sub hl [3, 4, 5, 6, 0] rfl)
                                              · replace hM := h_f hc hM
                                                refine lv_iconst (v := (0 : Int32)) hx hb dL_law_1125 (by decide) ?_
                                                exact absurd (congrArg Prod.fst (h_e hM)) (by simp)
                                          · replace hM := h_f hc hM
                                            refine lv_iconst (v := (0 : Int32)) hx hb dL_law_1109 (by decide) ?_
                                            exact absurd (congrArg Prod.fst (h_e hM)) (by simp)
                                        · replace hM := h_f hc hM
                                          refine lv_iconst (v := (1 : Int32)) hx hb dL_law_1084 (by decide) ?_
                                          refine lv_goto (tgt := 1089) hx hb dL_law_1085 (by decide) ?_
                                          refine lv_aload_n hx hb dL_law_1089 rfl (lv_at hl 1 rfl) ?_
                                          refine lv_iload hx hb dL_law_1090 (lv_at hl 5 rfl) ?_
                                          refine lv_iconst (v := (5 : Int32)) hx hb dL_law_1092 (by decide) ?_
                                          refine lv_iadd hx hb dL_law_1093 ?_
                                          refine s_sld (n := n) (k := 5) C hw hX hbl hbA (nI_ad n 5) (by omega) hL h5 dL_law_1094 ?_
                                          obtain ⟨r1095, hr1095, hM⟩ := h_b hM
                                          refine a_callV (σ' := aG r1095.2) (v := (some (.long r1095.1))) (As := fun ad => [.int a1, .int a2, .int (0 : Int32), .int (1 : Int32), .int a5]) (rest := []) (o := 109) C hw (c_X7_chance l hr1095) k_X7_chance wM_L_141 ⟨⟨rfl, rfl⟩, ⟨Nat.le_of_ble_eq_true rfl, Nat.le_of_ble_eq_true rfl⟩⟩ rfl (by decide) rfl rfl rfl hl rfl (Nat.le_of_ble_eq_true rfl) dL_law_1095 hcs (fun H locs hw => ?_)
                                          refine lv_lstore (lv' := [(6, .long r1095.1), (5, .int r1043.1), (0, .ref b), (1, .ref (ad 0)), (2, .ref (ad 109)), (3, .ref (ad 125)), (4, .int (nI n))]) hx hb dL_law_1098 hl (by decide) rfl (fun ls hl => ?_)
                                          refine lv_aload_n hx hb dL_law_1100 rfl (lv_at hl 4 rfl) ?_
                                          obtain ⟨r1101, hr1101, hM⟩ := h_b hM
                                          refine a_callV (σ' := aG r1101.2) (v := (some (.int r1101.1))) (As := fun ad => []) (rest := []) (o := 109) C hw (c_X7_thrown l hr1101) k_X7_thrown wM_L_91 ⟨⟨rfl, rfl⟩, ⟨Nat.le_of_ble_eq_true rfl, Nat.le_of_ble_eq_true rfl⟩⟩ rfl (by decide) rfl rfl rfl hl rfl (Nat.le_of_ble_eq_true rfl) dL_law_1101 hcs (fun H locs hw => ?_)
                                          refine lv_iload hx hb dL_law_1104 (lv_at hl 1 rfl) ?_
                                          refine lv_icmp_eq (tgt := 1111) hx hb dL_law_1106 (by decide) (fun hc => ?_) (fun hc => ?_)
                                          · replace hM := h_t hc hM
                                            refine lv_iload hx hb dL_law_1111 (lv_at hl 1 rfl) ?_
                                            refine lv_if_ne (tgt := 1127) hx hb dL_law_1113 (by decide) (fun hc => ?_) (fun hc => ?_)
                                            · replace hM := h_f hc hM
                                              refine lv_goto (tgt := 1526) hx hb dL_law_1127 (by decide) ?_
                                              refine lv_iinc (v := nI (n + 6)) (lv' := [(4, .int (nI (n + 6))), (6, .long r1095.1), (5, .int r1043.1), (0, .ref b), (1, .ref (ad 0)), (2, .ref (ad 109)), (3, .ref (ad 125))]) hx hb dL_law_1526 hl (k := 6) rfl (by rw [show Int32.ofInt 6 = nI 6 from by decide, nI_add]) (by decide) rfl (fun ls hl => ?_)
                                              refine lv_goto (tgt := 23) hx hb dL_law_1529 (by decide) ?_
                                              cases h_e hM
                                              exact hk hw (lv_sub hl [3, 4, 5, 6, 0] rfl)
                                            · replace hM := h_t hc hM
                                              refine lv_aload_n hx hb dL_law_1116 rfl (lv_at hl 5 rfl) ?_
                                              refine lv_iconst (v := (0 : Int32)) hx hb dL_law_1117 (by decide) ?_
                                              refine a_lald (σ := aG r1101.2) (o := 125) C hw rfl (aIn_v (by decide)) (show (0 : Int32).toNatClampNeg = 0 by decide) dL_law_1118 ?_
                                              refine lv_lload hx hb dL_law_1119 (lv_at hl 0 rfl) ?_
                                              refine W.lcmp hx hb dL_law_1121 ?_
                                              refine lv_if_eq (tgt := 1127) hx hb dL_law_1122 (by decide) (fun hc => ?_) (fun hc => ?_)
                                              · replace hM := h_t hc hM
                                                refine lv_goto (tgt := 1526) hx hb dL_law_1127 (by decide) ?_
                                                refine lv_iinc (v := nI (n + 6)) (lv' := [(4, .int (nI (n + 6))), (6, .long r1095.1), (5, .int r1043.1), (0, .ref b), (1, .ref (ad 0)), (2, .ref (ad 109)), (3, .ref (ad 125))]) hx hb dL_law_1526 hl (k := 6) rfl (by rw [show Int32.ofInt 6 = nI 6 from by decide, nI_add]) (by decide) rfl (fun ls hl => ?_)
                                                refine lv_goto (tgt := 23) hx hb dL_law_1529 (by decide) ?_
                                                cases h_e hM
                                                exact hk hw (lv_sub hl [3, 4, 5, 6, 0] rfl)
                                              · replace hM := h_f hc hM
                                                refine lv_iconst (v := (0 : Int32)) hx hb dL_law_1125 (by decide) ?_
                                                exact absurd (congrArg Prod.fst (h_e hM)) (by simp)
                                          · replace hM := h_f hc hM
                                            refine lv_iconst (v := (0 : Int32)) hx hb dL_law_1109 (by decide) ?_
                                            exact absurd (congrArg Prod.fst (h_e hM)) (by simp)
                                      · replace hM := h_f hc hM
                                        refine lv_iconst (v := (1 : Int32)) hx hb dL_law_1070 (by decide) ?_
                                        refine lv_goto (tgt := 1075) hx hb dL_law_1071 (by decide) ?_
                                        refine lv_aload_n hx hb dL_law_1075 rfl (lv_at hl 1 rfl) ?_
                                        refine lv_iload hx hb dL_law_1076 (lv_at hl 5 rfl) ?_
                                        refine lv_iconst (v := (4 : Int32)) hx hb dL_law_1078 (by decide) ?_
                                        refine lv_iadd hx hb dL_law_1079 ?_
                                        refine s_sld (n := n) (k := 4) C hw hX hbl hbA (nI_ad n 4) (by omega) hL h4 dL_law_1080 ?_
                                        refine lv_if_eq (tgt := 1088) hx hb dL_law_1081 (by decide) (fun hc => ?_) (fun hc => ?_)
                                        · replace hM := h_t hc hM
                                          refine lv_iconst (v := (0 : Int32)) hx hb dL_law_1088 (by decide) ?_
                                          refine lv_aload_n hx hb dL_law_1089 rfl (lv_at hl 1 rfl) ?_
                                          refine lv_iload hx hb dL_law_1090 (lv_at hl 5 rfl) ?_
                                          refine lv_iconst (v := (5 : Int32)) hx hb dL_law_1092 (by decide) ?_
                                          refine lv_iadd hx hb dL_law_1093 ?_
                                          refine s_sld (n := n) (k := 5) C hw hX hbl hbA (nI_ad n 5) (by omega) hL h5 dL_law_1094 ?_
                                          obtain ⟨r1095, hr1095, hM⟩ := h_b hM
                                          refine a_callV (σ' := aG r1095.2) (v := (some (.long r1095.1))) (As := fun ad => [.int a1, .int a2, .int (1 : Int32), .int (0 : Int32), .int a5]) (rest := []) (o := 109) C hw (c_X7_chance l hr1095) k_X7_chance wM_L_141 ⟨⟨rfl, rfl⟩, ⟨Nat.le_of_ble_eq_true rfl, Nat.le_of_ble_eq_true rfl⟩⟩ rfl (by decide) rfl rfl rfl hl rfl (Nat.le_of_ble_eq_true rfl) dL_law_1095 hcs (fun H locs hw => ?_)
                                          refine lv_lstore (lv' := [(6, .long r1095.1), (5, .int r1043.1), (0, .ref b), (1, .ref (ad 0)), (2, .ref (ad 109)), (3, .ref (ad 125)), (4, .int (nI n))]) hx hb dL_law_1098 hl (by decide) rfl (fun ls hl => ?_)
                                          refine lv_aload_n hx hb dL_law_1100 rfl (lv_at hl 4 rfl) ?_
                                          obtain ⟨r1101, hr1101, hM⟩ := h_b hM
                                          refine a_callV (σ' := aG r1101.2) (v := (some (.int r1101.1))) (As := fun ad => []) (rest := []) (o := 109) C hw (c_X7_thrown l hr1101) k_X7_thrown wM_L_91 ⟨⟨rfl, rfl⟩, ⟨Nat.le_of_ble_eq_true rfl, Nat.le_of_ble_eq_true rfl⟩⟩ rfl (by decide) rfl rfl rfl hl rfl (Nat.le_of_ble_eq_true rfl) dL_law_1101 hcs (fun H locs hw => ?_)
                                          refine lv_iload hx hb dL_law_1104 (lv_at hl 1 rfl) ?_
                                          refine lv_icmp_eq (tgt := 1111) hx hb dL_law_1106 (by decide) (fun hc => ?_) (fun hc => ?_)
                                          · replace hM := h_t hc hM
                                            refine lv_iload hx hb dL_law_1111 (lv_at hl 1 rfl) ?_
                                            refine lv_if_ne (tgt := 1127) hx hb dL_law_1113 (by decide) (fun hc => ?_) (fun hc => ?_)
                                            · replace hM := h_f hc hM
                                              refine lv_goto (tgt := 1526) hx hb dL_law_1127 (by decide) ?_
                                              refine lv_iinc (v := nI (n + 6)) (lv' := [(4, .int (nI (n + 6))), (6, .long r1095.1), (5, .int r1043.1), (0, .ref b), (1, .ref (ad 0)), (2, .ref (ad 109)), (3, .ref (ad 125))]) hx hb dL_law_1526 hl (k := 6) rfl (by rw [show Int32.ofInt 6 = nI 6 from by decide, nI_add]) (by decide) rfl (fun ls hl => ?_)
                                              refine lv_goto (tgt := 23) hx hb dL_law_1529 (by decide) ?_
                                              cases h_e hM
                                              exact hk hw (lv_sub hl [3, 4, 5, 6, 0] rfl)
                                            · replace hM := h_t hc hM
                                              refine lv_aload_n hx hb dL_law_1116 rfl (lv_at hl 5 rfl) ?_
                                              refine lv_iconst (v := (0 : Int32)) hx hb dL_law_1117 (by decide) ?_
                                              refine a_lald (σ := aG r1101.2) (o := 125) C hw rfl (aIn_v (by decide)) (show (0 : Int32).toNatClampNeg = 0 by decide) dL_law_1118 ?_
                                              refine lv_lload hx hb dL_law_1119 (lv_at hl 0 rfl) ?_
                                              refine W.lcmp hx hb dL_law_1121 ?_
                                              refine lv_if_eq (tgt := 1127) hx hb dL_law_1122 (by decide) (fun hc => ?_) (fun hc => ?_)
                                              · replace hM := h_t hc hM
                                                refine lv_goto (tgt := 1526) hx hb dL_law_1127 (by decide) ?_
                                                refine lv_iinc (v := nI (n + 6)) (lv' := [(4, .int (nI (n + 6))), (6, .long r1095.1), (5, .int r1043.1), (0, .ref b), (1, .ref (ad 0)), (2, .ref (ad 109)), (3, .ref (ad 125))]) hx hb dL_law_1526 hl (k := 6) rfl (by rw [show Int32.ofInt 6 = nI 6 from by decide, nI_add]) (by decide) rfl (fun ls hl => ?_)
                                                refine lv_goto (tgt := 23) hx hb dL_law_1529 (by decide) ?_
                                                cases h_e hM
                                                exact hk hw (lv_sub hl [3, 4, 5, 6, 0] rfl)
                                              · replace hM := h_f hc hM
                                                refine lv_iconst (v := (0 : Int32)) hx hb dL_law_1125 (by decide) ?_
                                                exact absurd (congrArg Prod.fst (h_e hM)) (by simp)
                                          · replace hM := h_f hc hM
                                            refine lv_iconst (v := (0 : Int32)) hx hb dL_law_1109 (by decide) ?_
                                            exact absurd (congrArg Prod.fst (h_e hM)) (by simp)
                                        · replace hM := h_f hc hM
                                          refine lv_iconst (v := (1 : Int32)) hx hb dL_law_1084 (by decide) ?_
                                          refine lv_goto (tgt := 1089) hx hb dL_law_1085 (by decide) ?_
                                          refine lv_aload_n hx hb dL_law_1089 rfl (lv_at hl 1 rfl) ?_
                                          refine lv_iload hx hb dL_law_1090 (lv_at hl 5 rfl) ?_
                                          refine lv_iconst (v := (5 : Int32)) hx hb dL_law_1092 (by decide) ?_
                                          refine lv_iadd hx hb dL_law_1093 ?_
                                          refine s_sld (n := n) (k := 5) C hw hX hbl hbA (nI_ad n 5) (by omega) hL h5 dL_law_1094 ?_
                                          obtain ⟨r1095, hr1095, hM⟩ := h_b hM
                                          refine a_callV (σ' := aG r1095.2) (v := (some (.long r1095.1))) (As := fun ad => [.int a1, .int a2, .int (1 : Int32), .int (1 : Int32), .int a5]) (rest := []) (o := 109) C hw (c_X7_chance l hr1095) k_X7_chance wM_L_141 ⟨⟨rfl, rfl⟩, ⟨Nat.le_of_ble_eq_true rfl, Nat.le_of_ble_eq_true rfl⟩⟩ rfl (by decide) rfl rfl rfl hl rfl (Nat.le_of_ble_eq_true rfl) dL_law_1095 hcs (fun H locs hw => ?_)
                                          refine lv_lstore (lv' := [(6, .long r1095.1), (5, .int r1043.1), (0, .ref b), (1, .ref (ad 0)), (2, .ref (ad 109)), (3, .ref (ad 125)), (4, .int (nI n))]) hx hb dL_law_1098 hl (by decide) rfl (fun ls hl => ?_)
                                          refine lv_aload_n hx hb dL_law_1100 rfl (lv_at hl 4 rfl) ?_
                                          obtain ⟨r1101, hr1101, hM⟩ := h_b hM
                                          refine a_callV (σ' := aG r1101.2) (v := (some (.int r1101.1))) (As := fun ad => []) (rest := []) (o := 109) C hw (c_X7_thrown l hr1101) k_X7_thrown wM_L_91 ⟨⟨rfl, rfl⟩, ⟨Nat.le_of_ble_eq_true rfl, Nat.le_of_ble_eq_true rfl⟩⟩ rfl (by decide) rfl rfl rfl hl rfl (Nat.le_of_ble_eq_true rfl) dL_law_1101 hcs (fun H locs hw => ?_)
                                          refine lv_iload hx hb dL_law_1104 (lv_at hl 1 rfl) ?_
                                          refine lv_icmp_eq (tgt := 1111) hx hb dL_law_1106 (by decide) (fun hc => ?_) (fun hc => ?_)
                                          · replace hM := h_t hc hM
                                            refine lv_iload hx hb dL_law_1111 (lv_at hl 1 rfl) ?_
                                            refine lv_if_ne (tgt := 1127) hx hb dL_law_1113 (by decide) (fun hc => ?_) (fun hc => ?_)
                                            · replace hM := h_f hc hM
                                              refine lv_goto (tgt := 1526) hx hb dL_law_1127 (by decide) ?_
                                              refine lv_iinc (v := nI (n + 6)) (lv' := [(4, .int (nI (n + 6))), (6, .long r1095.1), (5, .int r1043.1), (0, .ref b), (1, .ref (ad 0)), (2, .ref (ad 109)), (3, .ref (ad 125))]) hx hb dL_law_1526 hl (k := 6) rfl (by rw [show Int32.ofInt 6 = nI 6 from by decide, nI_add]) (by decide) rfl (fun ls hl => ?_)
                                              refine lv_goto (tgt := 23) hx hb dL_law_1529 (by decide) ?_
                                              cases h_e hM
                                              exact hk hw (lv_sub hl [3, 4, 5, 6, 0] rfl)
                                            · replace hM := h_t hc hM
                                              refine lv_aload_n hx hb dL_law_1116 rfl (lv_at hl 5 rfl) ?_
                                              refine lv_iconst (v := (0 : Int32)) hx hb dL_law_1117 (by decide) ?_
                                              refine a_lald (σ := aG r1101.2) (o := 125) C hw rfl (aIn_v (by decide)) (show (0 : Int32).toNatClampNeg = 0 by decide) dL_law_1118 ?_
                                              refine lv_lload hx hb dL_law_1119 (lv_at hl 0 rfl) ?_
                                              refine W.lcmp hx hb dL_law_1121 ?_
                                              refine lv_if_eq (tgt := 1127) hx hb dL_law_1122 (by decide) (fun hc => ?_) (fun hc => ?_)
                                              · replace hM := h_t hc hM
                                                refine lv_goto (tgt := 1526) hx hb dL_law_1127 (by decide) ?_
                                                refine lv_iinc (v := nI (n + 6)) (lv' := [(4, .int (nI (n + 6))), (6, .long r1095.1), (5, .int r1043.1), (0, .ref b), (1, .ref (ad 0)), (2, .ref (ad 109)), (3, .ref (ad 125))]) hx hb dL_law_1526 hl (k := 6) rfl (by rw [show Int32.ofInt 6 = nI 6 from by decide, nI_add]) (by decide) rfl (fun ls hl => ?_)
                                                refine lv_goto (tgt := 23) hx hb dL_law_1529 (by decide) ?_
                                                cases h_e hM
                                                exact hk hw (lv_sub hl [3, 4, 5, 6, 0] rfl)
                                              · replace hM := h_f hc hM
                                                refine lv_iconst (v := (0 : Int32)) hx hb dL_law_1125 (by decide) ?_
                                                exact absurd (congrArg Prod.fst (h_e hM)) (by simp)
                                          · replace hM := h_f hc hM
                                            refine lv_iconst (v := (0 : Int32)) hx hb dL_law_1109 (by decide) ?_
                                            exact absurd (congrArg Prod.fst (h_e hM)) (by simp)
                                · replace hM := h_f hc15 hM
                                  by_cases hc16 : (a0 &&& (31 : Int32)) = 16
                                  · replace hM := h_t hc16 hM
                                    refine lv_tableIn (tgt := 1130) hx hb dL_law_40 (by rw [hc16]; decide) (by rw [hc16]; decide) (off := 1090) (by rw [hc16]; decide) (by decide) ?_
                                    refine lv_aload_n hx hb dL_law_1130 rfl (lv_at hl 1 rfl) ?_
                                    refine lv_aload_n hx hb dL_law_1131 rfl (lv_at hl 0 rfl) ?_
                                    refine lv_iload hx hb dL_law_1132 (lv_at hl 4 rfl) ?_
                                    refine lv_iconst (v := (1 : Int32)) hx hb dL_law_1134 (by decide) ?_
                                    refine lv_iadd hx hb dL_law_1135 ?_
                                    refine s_sld (n := n) (k := 1) C hw hX hbl hbA (nI_ad n 1) (by omega) hL h1 dL_law_1136 ?_
                                    refine lv_aload_n hx hb dL_law_1137 rfl (lv_at hl 3 rfl) ?_
                                    obtain ⟨r1138, hr1138, hM⟩ := h_b hM
                                    refine x_callW (σ' := aG r1138.2) (v := (some (.int r1138.1))) (as := fun ad => [.ref (ad 0), .int a1, .ref (ad 125)]) (rest := []) C hw (cw_size l hst hr1138) kw_size wM_L_142 ⟨Nat.le_of_ble_eq_true rfl, Nat.le_of_ble_eq_true rfl⟩ rfl hl rfl (Nat.le_of_ble_eq_true rfl) dL_law_1138 hcs (fun H locs hw => ?_)
                                    refine lv_istore (lv' := [(5, .int r1138.1), (0, .ref b), (1, .ref (ad 0)), (2, .ref (ad 109)), (3, .ref (ad 125)), (4, .int (nI n))]) hx hb dL_law_1141 hl (by decide) rfl (fun ls hl => ?_)
                                    refine lv_aload_n hx hb dL_law_1143 rfl (lv_at hl 3 rfl) ?_
                                    refine lv_aload_n hx hb dL_law_1144 rfl (lv_at hl 1 rfl) ?_
                                    refine lv_iload hx hb dL_law_1145 (lv_at hl 5 rfl) ?_
                                    refine lv_iconst (v := (1 : Int32)) hx hb dL_law_1147 (by decide) ?_
                                    refine lv_iadd hx hb dL_law_1148 ?_
                                    refine s_sld (n := n) (k := 1) C hw hX hbl hbA (nI_ad n 1) (by omega) hL h1 dL_law_1149 ?_
                                    obtain ⟨r1150, hr1150, hM⟩ := h_b hM
                                    refine a_callV (σ' := aG r1150.2) (v := (some (.long r1150.1))) (As := fun ad => [.int a1]) (rest := []) (o := 109) C hw (c_X7_size l hr1150) k_X7_size wM_L_144 ⟨⟨rfl, rfl⟩, ⟨Nat.le_of_ble_eq_true rfl, Nat.le_of_ble_eq_true rfl⟩⟩ rfl (by decide) rfl rfl rfl hl rfl (Nat.le_of_ble_eq_true rfl) dL_law_1150 hcs (fun H locs hw => ?_)
                                    refine lv_lstore (lv' := [(6, .long r1150.1), (5, .int r1138.1), (0, .ref b), (1, .ref (ad 0)), (2, .ref (ad 109)), (3, .ref (ad 125)), (4, .int (nI n))]) hx hb dL_law_1153 hl (by decide) rfl (fun ls hl => ?_)
                                    refine lv_aload_n hx hb dL_law_1155 rfl (lv_at hl 4 rfl) ?_
                                    obtain ⟨r1156, hr1156, hM⟩ := h_b hM
                                    refine a_callV (σ' := aG r1156.2) (v := (some (.int r1156.1))) (As := fun ad => []) (rest := []) (o := 109) C hw (c_X7_thrown l hr1156) k_X7_thrown wM_L_91 ⟨⟨rfl, rfl⟩, ⟨Nat.le_of_ble_eq_true rfl, Nat.le_of_ble_eq_true rfl⟩⟩ rfl (by decide) rfl rfl rfl hl rfl (Nat.le_of_ble_eq_true rfl) dL_law_1156 hcs (fun H locs hw => ?_)
                                    refine lv_iload hx hb dL_law_1159 (lv_at hl 1 rfl) ?_
                                    refine lv_icmp_eq (tgt := 1166) hx hb dL_law_1161 (by decide) (fun hc => ?_) (fun hc => ?_)
                                    · replace hM := h_t hc hM
                                      refine lv_iload hx hb dL_law_1166 (lv_at hl 1 rfl) ?_
                                      refine lv_if_ne (tgt := 1182) hx hb dL_law_1168 (by decide) (fun hc => ?_) (fun hc => ?_)
                                      · replace hM := h_f hc hM
                                        refine lv_goto (tgt := 1526) hx hb dL_law_1182 (by decide) ?_
                                        refine lv_iinc (v := nI (n + 6)) (lv' := [(4, .int (nI (n + 6))), (6, .long r1150.1), (5, .int r1138.1), (0, .ref b), (1, .ref (ad 0)), (2, .ref (ad 109)), (3, .ref (ad 125))]) hx hb dL_law_1526 hl (k := 6) rfl (by rw [show Int32.ofInt 6 = nI 6 from by decide, nI_add]) (by decide) rfl (fun ls hl => ?_)
                                        refine lv_goto (tgt := 23) hx hb dL_law_1529 (by decide) ?_
                                        cases h_e hM
                                        exact hk hw (lv_sub hl [3, 4, 5, 6, 0] rfl)
                                      · replace hM := h_t hc hM
                                        refine lv_aload_n hx hb dL_law_1171 rfl (lv_at hl 5 rfl) ?_
                                        refine lv_iconst (v := (0 : Int32)) hx hb dL_law_1172 (by decide) ?_
                                        refine a_lald (σ := aG r1156.2) (o := 125) C hw rfl (aIn_v (by decide)) (show (0 : Int32).toNatClampNeg = 0 by decide) dL_law_1173 ?_
                                        refine lv_lload hx hb dL_law_1174 (lv_at hl 0 rfl) ?_
                                        refine W.lcmp hx hb dL_law_1176 ?_
                                        refine lv_if_eq (tgt := 1182) hx hb dL_law_1177 (by decide) (fun hc => ?_) (fun hc => ?_)
                                        · replace hM := h_t hc hM
                                          refine lv_goto (tgt := 1526) hx hb dL_law_1182 (by decide) ?_
                                          refine lv_iinc (v := nI (n + 6)) (lv' := [(4, .int (nI (n + 6))), (6, .long r1150.1), (5, .int r1138.1), (0, .ref b), (1, .ref (ad 0)), (2, .ref (ad 109)), (3, .ref (ad 125))]) hx hb dL_law_1526 hl (k := 6) rfl (by rw [show Int32.ofInt 6 = nI 6 from by decide, nI_add]) (by decide) rfl (fun ls hl => ?_)
                                          refine lv_goto (tgt := 23) hx hb dL_law_1529 (by decide) ?_
                                          cases h_e hM
                                          exact hk hw (lv_sub hl [3, 4, 5, 6, 0] rfl)
                                        · replace hM := h_f hc hM
                                          refine lv_iconst (v := (0 : Int32)) hx hb dL_law_1180 (by decide) ?_
                                          exact absurd (congrArg Prod.fst (h_e hM)) (by simp)
                                    · replace hM := h_f hc hM
                                      refine lv_iconst (v := (0 : Int32)) hx hb dL_law_1164 (by decide) ?_
                                      exact absurd (congrArg Prod.fst (h_e hM)) (by simp)
                                  · replace hM := h_f hc16 hM
                                    by_cases hc17 : (a0 &&& (31 : Int32)) = 17
                                    · replace hM := h_t hc17 hM
                                      refine lv_tableIn (tgt := 1185) hx hb dL_law_40 (by rw [hc17]; decide) (by rw [hc17]; decide) (off := 1145) (by rw [hc17]; decide) (by decide) ?_
                                      refine lv_aload_n hx hb dL_law_1185 rfl (lv_at hl 1 rfl) ?_
                                      refine lv_aload_n hx hb dL_law_1186 rfl (lv_at hl 0 rfl) ?_
                                      refine lv_iload hx hb dL_law_1187 (lv_at hl 4 rfl) ?_
                                      refine lv_iconst (v := (1 : Int32)) hx hb dL_law_1189 (by decide) ?_
                                      refine lv_iadd hx hb dL_law_1190 ?_
                                      refine s_sld (n := n) (k := 1) C hw hX hbl hbA (nI_ad n 1) (by omega) hL h1 dL_law_1191 ?_
                                      refine lv_aload_n hx hb dL_law_1192 rfl (lv_at hl 0 rfl) ?_
                                      refine lv_iload hx hb dL_law_1193 (lv_at hl 4 rfl) ?_
                                      refine lv_iconst (v := (2 : Int32)) hx hb dL_law_1195 (by decide) ?_
                                      refine lv_iadd hx hb dL_law_1196 ?_
                                      refine s_sld (n := n) (k := 2) C hw hX hbl hbA (nI_ad n 2) (by omega) hL h2 dL_law_1197 ?_
                                      refine lv_aload_n hx hb dL_law_1198 rfl (lv_at hl 3 rfl) ?_
                                      obtain ⟨r1199, hr1199, hM⟩ := h_b hM
                                      refine x_callW (σ' := aG r1199.2) (v := (some (.int r1199.1))) (as := fun ad => [.ref (ad 0), .int a1, .int a2, .ref (ad 125)]) (rest := []) C hw (cw_fairest l hst hr1199) kw_fairest wM_L_145 ⟨Nat.le_of_ble_eq_true rfl, Nat.le_of_ble_eq_true rfl⟩ rfl hl rfl (Nat.le_of_ble_eq_true rfl) dL_law_1199 hcs (fun H locs hw => ?_)
                                      refine lv_istore (lv' := [(5, .int r1199.1), (0, .ref b), (1, .ref (ad 0)), (2, .ref (ad 109)), (3, .ref (ad 125)), (4, .int (nI n))]) hx hb dL_law_1202 hl (by decide) rfl (fun ls hl => ?_)
                                      refine lv_aload_n hx hb dL_law_1204 rfl (lv_at hl 3 rfl) ?_
                                      refine lv_aload_n hx hb dL_law_1205 rfl (lv_at hl 1 rfl) ?_
                                      refine lv_iload hx hb dL_law_1206 (lv_at hl 5 rfl) ?_
                                      refine lv_iconst (v := (1 : Int32)) hx hb dL_law_1208 (by decide) ?_
                                      refine lv_iadd hx hb dL_law_1209 ?_
                                      refine s_sld (n := n) (k := 1) C hw hX hbl hbA (nI_ad n 1) (by omega) hL h1 dL_law_1210 ?_
                                      refine lv_aload_n hx hb dL_law_1211 rfl (lv_at hl 1 rfl) ?_
                                      refine lv_iload hx hb dL_law_1212 (lv_at hl 5 rfl) ?_
                                      refine lv_iconst (v := (2 : Int32)) hx hb dL_law_1214 (by decide) ?_
                                      refine lv_iadd hx hb dL_law_1215 ?_
                                      refine s_sld (n := n) (k := 2) C hw hX hbl hbA (nI_ad n 2) (by omega) hL h2 dL_law_1216 ?_
                                      obtain ⟨r1217, hr1217, hM⟩ := h_b hM
                                      refine a_callV (σ' := aG r1217.2) (v := (some (.long r1217.1))) (As := fun ad => [.int a1, .int a2]) (rest := []) (o := 109) C hw (c_X7_fairest l hr1217) k_X7_fairest wM_L_147 ⟨⟨rfl, rfl⟩, ⟨Nat.le_of_ble_eq_true rfl, Nat.le_of_ble_eq_true rfl⟩⟩ rfl (by decide) rfl rfl rfl hl rfl (Nat.le_of_ble_eq_true rfl) dL_law_1217 hcs (fun H locs hw => ?_)
                                      refine lv_lstore (lv' := [(6, .long r1217.1), (5, .int r1199.1), (0, .ref b), (1, .ref (ad 0)), (2, .ref (ad 109)), (3, .ref (ad 125)), (4, .int (nI n))]) hx hb dL_law_1220 hl (by decide) rfl (fun ls hl => ?_)
                                      refine lv_aload_n hx hb dL_law_1222 rfl (lv_at hl 4 rfl) ?_
                                      obtain ⟨r1223, hr1223, hM⟩ := h_b hM
                                      refine a_callV (σ' := aG r1223.2) (v := (some (.int r1223.1))) (As := fun ad => []) (rest := []) (o := 109) C hw (c_X7_thrown l hr1223) k_X7_thrown wM_L_91 ⟨⟨rfl, rfl⟩, ⟨Nat.le_of_ble_eq_true rfl, Nat.le_of_ble_eq_true rfl⟩⟩ rfl (by decide) rfl rfl rfl hl rfl (Nat.le_of_ble_eq_true rfl) dL_law_1223 hcs (fun H locs hw => ?_)
                                      refine lv_iload hx hb dL_law_1226 (lv_at hl 1 rfl) ?_
                                      refine lv_icmp_eq (tgt := 1233) hx hb dL_law_1228 (by decide) (fun hc => ?_) (fun hc => ?_)
                                      · replace hM := h_t hc hM
                                        refine lv_iload hx hb dL_law_1233 (lv_at hl 1 rfl) ?_
                                        refine lv_if_ne (tgt := 1249) hx hb dL_law_1235 (by decide) (fun hc => ?_) (fun hc => ?_)
                                        · replace hM := h_f hc hM
                                          refine lv_goto (tgt := 1526) hx hb dL_law_1249 (by decide) ?_
                                          refine lv_iinc (v := nI (n + 6)) (lv' := [(4, .int (nI (n + 6))), (6, .long r1217.1), (5, .int r1199.1), (0, .ref b), (1, .ref (ad 0)), (2, .ref (ad 109)), (3, .ref (ad 125))]) hx hb dL_law_1526 hl (k := 6) rfl (by rw [show Int32.ofInt 6 = nI 6 from by decide, nI_add]) (by decide) rfl (fun ls hl => ?_)
                                          refine lv_goto (tgt := 23) hx hb dL_law_1529 (by decide) ?_
                                          cases h_e hM
                                          exact hk hw (lv_sub hl [3, 4, 5, 6, 0] rfl)
                                        · replace hM := h_t hc hM
                                          refine lv_aload_n hx hb dL_law_1238 rfl (lv_at hl 5 rfl) ?_
                                          refine lv_iconst (v := (0 : Int32)) hx hb dL_law_1239 (by decide) ?_
                                          refine a_lald (σ := aG r1223.2) (o := 125) C hw rfl (aIn_v (by decide)) (show (0 : Int32).toNatClampNeg = 0 by decide) dL_law_1240 ?_
                                          refine lv_lload hx hb dL_law_1241 (lv_at hl 0 rfl) ?_
                                          refine W.lcmp hx hb dL_law_1243 ?_
                                          refine lv_if_eq (tgt := 1249) hx hb dL_law_1244 (by decide) (fun hc => ?_) (fun hc => ?_)
                                          · replace hM := h_t hc hM
                                            refine lv_goto (tgt := 1526) hx hb dL_law_1249 (by decide) ?_
                                            refine lv_iinc (v := nI (n + 6)) (lv' := [(4, .int (nI (n + 6))), (6, .long r1217.1), (5, .int r1199.1), (0, .ref b), (1, .ref (ad 0)), (2, .ref (ad 109)), (3, .ref (ad 125))]) hx hb dL_law_1526 hl (k := 6) rfl (by rw [show Int32.ofInt 6 = nI 6 from by decide, nI_add]) (by decide) rfl (fun ls hl => ?_)
                                            refine lv_goto (tgt := 23) hx hb dL_law_1529 (by decide) ?_
                                            cases h_e hM
                                            exact hk hw (lv_sub hl [3, 4, 5, 6, 0] rfl)
                                          · replace hM := h_f hc hM
                                            refine lv_iconst (v := (0 : Int32)) hx hb dL_law_1247 (by decide) ?_
                                            exact absurd (congrArg Prod.fst (h_e hM)) (by simp)
                                      · replace hM := h_f hc hM
                                        refine lv_iconst (v := (0 : Int32)) hx hb dL_law_1231 (by decide) ?_
                                        exact absurd (congrArg Prod.fst (h_e hM)) (by simp)
                                    · replace hM := h_f hc17 hM
                                      by_cases hc18 : (a0 &&& (31 : Int32)) = 18
                                      · replace hM := h_t hc18 hM
                                        refine lv_tableIn (tgt := 1252) hx hb dL_law_40 (by rw [hc18]; decide) (by rw [hc18]; decide) (off := 1212) (by rw [hc18]; decide) (by decide) ?_
                                        refine lv_aload_n hx hb dL_law_1252 rfl (lv_at hl 1 rfl) ?_
                                        refine lv_aload_n hx hb dL_law_1253 rfl (lv_at hl 0 rfl) ?_
                                        refine lv_iload hx hb dL_law_1254 (lv_at hl 4 rfl) ?_
                                        refine lv_iconst (v := (1 : Int32)) hx hb dL_law_1256 (by decide) ?_
                                        refine lv_iadd hx hb dL_law_1257 ?_
                                        refine s_sld (n := n) (k := 1) C hw hX hbl hbA (nI_ad n 1) (by omega) hL h1 dL_law_1258 ?_
                                        refine lv_aload_n hx hb dL_law_1259 rfl (lv_at hl 0 rfl) ?_
                                        refine lv_iload hx hb dL_law_1260 (lv_at hl 4 rfl) ?_
                                        refine lv_iconst (v := (2 : Int32)) hx hb dL_law_1262 (by decide) ?_
                                        refine lv_iadd hx hb dL_law_1263 ?_
                                        refine s_sld (n := n) (k := 2) C hw hX hbl hbA (nI_ad n 2) (by omega) hL h2 dL_law_1264 ?_
                                        refine lv_if_eq (tgt := 1272) hx hb dL_law_1265 (by decide) (fun hc => ?_) (fun hc => ?_)
                                        · replace hM := h_t hc hM
                                          refine lv_iconst (v := (0 : Int32)) hx hb dL_law_1272 (by decide) ?_
                                          refine lv_aload_n hx hb dL_law_1273 rfl (lv_at hl 0 rfl) ?_
                                          refine lv_iload hx hb dL_law_1274 (lv_at hl 4 rfl) ?_
                                          refine lv_iconst (v := (3 : Int32)) hx hb dL_law_1276 (by decide) ?_
                                          refine lv_iadd hx hb dL_law_1277 ?_
                                          refine s_sld (n := n) (k := 3) C hw hX hbl hbA (nI_ad n 3) (by omega) hL h3 dL_law_1278 ?_
                                          refine lv_if_eq (tgt := 1286) hx hb dL_law_1279 (by decide) (fun hc => ?_) (fun hc => ?_)
                                          · replace hM := h_t hc hM
                                            refine lv_iconst (v := (0 : Int32)) hx hb dL_law_1286 (by decide) ?_
                                            refine lv_aload_n hx hb dL_law_1287 rfl (lv_at hl 0 rfl) ?_
                                            refine lv_iload hx hb dL_law_1288 (lv_at hl 4 rfl) ?_
                                            refine lv_iconst (v := (4 : Int32)) hx hb dL_law_1290 (by decide) ?_
                                            refine lv_iadd hx hb dL_law_1291 ?_
                                            refine s_sld (n := n) (k := 4) C hw hX hbl hbA (nI_ad n 4) (by omega) hL h4 dL_law_1292 ?_
                                            refine lv_aload_n hx hb dL_law_1293 rfl (lv_at hl 3 rfl) ?_
                                            obtain ⟨r1294, hr1294, hM⟩ := h_b hM
                                            refine x_callW (σ' := aG r1294.2) (v := (some (.int r1294.1))) (as := fun ad => [.ref (ad 0), .int a1, .int (0 : Int32), .int (0 : Int32), .int a4, .ref (ad 125)]) (rest := []) C hw (cw_odds l hst hr1294) kw_odds wM_L_148 ⟨Nat.le_of_ble_eq_true rfl, Nat.le_of_ble_eq_true rfl⟩ rfl hl rfl (Nat.le_of_ble_eq_true rfl) dL_law_1294 hcs (fun H locs hw => ?_)
                                            refine lv_istore (lv' := [(5, .int r1294.1), (0, .ref b), (1, .ref (ad 0)), (2, .ref (ad 109)), (3, .ref (ad 125)), (4, .int (nI n))]) hx hb dL_law_1297 hl (by decide) rfl (fun ls hl => ?_)
                                            refine lv_aload_n hx hb dL_law_1299 rfl (lv_at hl 3 rfl) ?_
                                            refine lv_aload_n hx hb dL_law_1300 rfl (lv_at hl 1 rfl) ?_
                                            refine lv_iload hx hb dL_law_1301 (lv_at hl 5 rfl) ?_
                                            refine lv_iconst (v := (1 : Int32)) hx hb dL_law_1303 (by decide) ?_
                                            refine lv_iadd hx hb dL_law_1304 ?_
                                            refine s_sld (n := n) (k := 1) C hw hX hbl hbA (nI_ad n 1) (by omega) hL h1 dL_law_1305 ?_
                                            refine lv_aload_n hx hb dL_law_1306 rfl (lv_at hl 1 rfl) ?_
                                            refine lv_iload hx hb dL_law_1307 (lv_at hl 5 rfl) ?_
                                            refine lv_iconst (v := (2 : Int32)) hx hb dL_law_1309 (by decide) ?_
                                            refine lv_iadd hx hb dL_law_1310 ?_
                                            refine s_sld (n := n) (k := 2) C hw hX hbl hbA (nI_ad n 2) (by omega) hL h2 dL_law_1311 ?_
                                            refine lv_if_eq (tgt := 1319) hx hb dL_law_1312 (by decide) (fun hc => ?_) (fun hc => ?_)
                                            · replace hM := h_t hc hM
                                              refine lv_iconst (v := (0 : Int32)) hx hb dL_law_1319 (by decide) ?_
                                              refine lv_aload_n hx hb dL_law_1320 rfl (lv_at hl 1 rfl) ?_
                                              refine lv_iload hx hb dL_law_1321 (lv_at hl 5 rfl) ?_
                                              refine lv_iconst (v := (3 : Int32)) hx hb dL_law_1323 (by decide) ?_
                                              refine lv_iadd hx hb dL_law_1324 ?_
                                              refine s_sld (n := n) (k := 3) C hw hX hbl hbA (nI_ad n 3) (by omega) hL h3 dL_law_1325 ?_
                                              refine lv_if_eq (tgt := 1333) hx hb dL_law_1326 (by decide) (fun hc => ?_) (fun hc => ?_)
                                              · replace hM := h_t hc hM
                                                refine lv_iconst (v := (0 : Int32)) hx hb dL_law_1333 (by decide) ?_
                                                refine lv_aload_n hx hb dL_law_1334 rfl (lv_at hl 1 rfl) ?_
                                                refine lv_iload hx hb dL_law_1335 (lv_at hl 5 rfl) ?_
                                                refine lv_iconst (v := (4 : Int32)) hx hb dL_law_1337 (by decide) ?_
                                                refine lv_iadd hx hb dL_law_1338 ?_
                                                refine s_sld (n := n) (k := 4) C hw hX hbl hbA (nI_ad n 4) (by omega) hL h4 dL_law_1339 ?_
                                                obtain ⟨r1340, hr1340, hM⟩ := h_b hM
                                                refine a_callV (σ' := aG r1340.2) (v := (some (.long r1340.1))) (As := fun ad => [.int a1, .int (0 : Int32), .int (0 : Int32), .int a4]) (rest := []) (o := 109) C hw (c_X7_odds l hr1340) k_X7_odds wM_L_151 ⟨⟨rfl, rfl⟩, ⟨Nat.le_of_ble_eq_true rfl, Nat.le_of_ble_eq_true rfl⟩⟩ rfl (by decide) rfl rfl rfl hl rfl (Nat.le_of_ble_eq_true rfl) dL_law_1340 hcs (fun H locs hw => ?_)
                                                refine lv_lstore (lv' := [(6, .long r1340.1), (5, .int r1294.1), (0, .ref b), (1, .ref (ad 0)), (2, .ref (ad 109)), (3, .ref (ad 125)), (4, .int (nI n))]) hx hb dL_law_1343 hl (by decide) rfl (fun ls hl => ?_)
                                                refine lv_aload_n hx hb dL_law_1345 rfl (lv_at hl 4 rfl) ?_
                                                obtain ⟨r1346, hr1346, hM⟩ := h_b hM
                                                refine a_callV (σ' := aG r1346.2) (v := (some (.int r1346.1))) (As := fun ad => []) (rest := []) (o := 109) C hw (c_X7_thrown l hr1346) k_X7_thrown wM_L_91 ⟨⟨rfl, rfl⟩, ⟨Nat.le_of_ble_eq_true rfl, Nat.le_of_ble_eq_true rfl⟩⟩ rfl (by decide) rfl rfl rfl hl rfl (Nat.le_of_ble_eq_true rfl) dL_law_1346 hcs (fun H locs hw => ?_)
                                                refine lv_iload hx hb dL_law_1349 (lv_at hl 1 rfl) ?_
                                                refine lv_icmp_eq (tgt := 1356) hx hb dL_law_1351 (by decide) (fun hc => ?_) (fun hc => ?_)
                                                · replace hM := h_t hc hM
                                                  refine lv_iload hx hb dL_law_1356 (lv_at hl 1 rfl) ?_
                                                  refine lv_if_ne (tgt := 1372) hx hb dL_law_1358 (by decide) (fun hc => ?_) (fun hc => ?_)
                                                  · replace hM := h_f hc hM
                                                    refine lv_goto (tgt := 1526) hx hb dL_law_1372 (by decide) ?_
                                                    refine lv_iinc (v := nI (n + 6)) (lv' := [(4, .int (nI (n + 6))), (6, .long r1340.1), (5, .int r1294.1), (0, .ref b), (1, .ref (ad 0)), (2, .ref (ad 109)), (3, .ref (ad 125))]) hx hb dL_law_1526 hl (k := 6) rfl (by rw [show Int32.ofInt 6 = nI 6 from by decide, nI_add]) (by decide) rfl (fun ls hl => ?_)
                                                    refine lv_goto (tgt := 23) hx hb dL_law_1529 (by decide) ?_
                                                    cases h_e hM
                                                    exact hk hw (lv_sub hl [3, 4, 5, 6, 0] rfl)
                                                  · replace hM := h_t hc hM
                                                    refine lv_aload_n hx hb dL_law_1361 rfl (lv_at hl 5 rfl) ?_
                                                    refine lv_iconst (v := (0 : Int32)) hx hb dL_law_1362 (by decide) ?_
                                                    refine a_lald (σ := aG r1346.2) (o := 125) C hw rfl (aIn_v (by decide)) (show (0 : Int32).toNatClampNeg = 0 by decide) dL_law_1363 ?_
                                                    refine lv_lload hx hb dL_law_1364 (lv_at hl 0 rfl) ?_
                                                    refine W.lcmp hx hb dL_law_1366 ?_
                                                    refine lv_if_eq (tgt := 1372) hx hb dL_law_1367 (by decide) (fun hc => ?_) (fun hc => ?_)
                                                    · replace hM := h_t hc hM
                                                      refine lv_goto (tgt := 1526) hx hb dL_law_1372 (by decide) ?_
                                                      refine lv_iinc (v := nI (n + 6)) (lv' := [(4, .int (nI (n + 6))), (6, .long r1340.1), (5, .int r1294.1), (0, .ref b), (1, .ref (ad 0)), (2, .ref (ad 109)), (3, .ref (ad 125))]) hx hb dL_law_1526 hl (k := 6) rfl (by rw [show Int32.ofInt 6 = nI 6 from by decide, nI_add]) (by decide) rfl (fun ls hl => ?_)
                                                      refine lv_goto (tgt := 23) hx hb dL_law_1529 (by decide) ?_
                                                      cases h_e hM
                                                      exact hk hw (lv_sub hl [3, 4, 5, 6, 0] rfl)
                                                    · replace hM := h_f hc hM
                                                      refine lv_iconst (v := (0 : Int32)) hx hb dL_law_1370 (by decide) ?_
                                                      exact absurd (congrArg Prod.fst (h_e hM)) (by simp)
                                                · replace hM := h_f hc hM
                                                  refine lv_iconst (v := (0 : Int32)) hx hb dL_law_1354 (by decide) ?_
                                                  exact absurd (congrArg Prod.fst (h_e hM)) (by simp)
                                              · replace hM := h_f hc hM
                                                refine lv_iconst (v := (1 : Int32)) hx hb dL_law_1329 (by decide) ?_
                                                refine lv_goto (tgt := 1334) hx hb dL_law_1330 (by decide) ?_
                                                refine lv_aload_n hx hb dL_law_1334 rfl (lv_at hl 1 rfl) ?_
                                                refine lv_iload hx hb dL_law_1335 (lv_at hl 5 rfl) ?_
                                                refine lv_iconst (v := (4 : Int32)) hx hb dL_law_1337 (by decide) ?_
                                                refine lv_iadd hx hb dL_law_1338 ?_
                                                refine s_sld (n := n) (k := 4) C hw hX hbl hbA (nI_ad n 4) (by omega) hL h4 dL_law_1339 ?_
                                                obtain ⟨r1340, hr1340, hM⟩ := h_b hM
                                                refine a_callV (σ' := aG r1340.2) (v := (some (.long r1340.1))) (As := fun ad => [.int a1, .int (0 : Int32), .int (1 : Int32), .int a4]) (rest := []) (o := 109) C hw (c_X7_odds l hr1340) k_X7_odds wM_L_151 ⟨⟨rfl, rfl⟩, ⟨Nat.le_of_ble_eq_true rfl, Nat.le_of_ble_eq_true rfl⟩⟩ rfl (by decide) rfl rfl rfl hl rfl (Nat.le_of_ble_eq_true rfl) dL_law_1340 hcs (fun H locs hw => ?_)
                                                refine lv_lstore (lv' := [(6, .long r1340.1), (5, .int r1294.1), (0, .ref b), (1, .ref (ad 0)), (2, .ref (ad 109)), (3, .ref (ad 125)), (4, .int (nI n))]) hx hb dL_law_1343 hl (by decide) rfl (fun ls hl => ?_)
                                                refine lv_aload_n hx hb dL_law_1345 rfl (lv_at hl 4 rfl) ?_
                                                obtain ⟨r1346, hr1346, hM⟩ := h_b hM
                                                refine a_callV (σ' := aG r1346.2) (v := (some (.int r1346.1))) (As := fun ad => []) (rest := []) (o := 109) C hw (c_X7_thrown l hr1346) k_X7_thrown wM_L_91 ⟨⟨rfl, rfl⟩, ⟨Nat.le_of_ble_eq_true rfl, Nat.le_of_ble_eq_true rfl⟩⟩ rfl (by decide) rfl rfl rfl hl rfl (Nat.le_of_ble_eq_true rfl) dL_law_1346 hcs (fun H locs hw => ?_)
                                                refine lv_iload hx hb dL_law_1349 (lv_at hl 1 rfl) ?_
                                                refine lv_icmp_eq (tgt := 1356) hx hb dL_law_1351 (by decide) (fun hc => ?_) (fun hc => ?_)
                                                · replace hM := h_t hc hM
                                                  refine lv_iload hx hb dL_law_1356 (lv_at hl 1 rfl) ?_
                                                  refine lv_if_ne (tgt := 1372) hx hb dL_law_1358 (by decide) (fun hc => ?_) (fun hc => ?_)
                                                  · replace hM := h_f hc hM
                                                    refine lv_goto (tgt := 1526) hx hb dL_law_1372 (by decide) ?_
                                                    refine lv_iinc (v := nI (n + 6)) (lv' := [(4, .int (nI (n + 6))), (6, .long r1340.1), (5, .int r1294.1), (0, .ref b), (1, .ref (ad 0)), (2, .ref (ad 109)), (3, .ref (ad 125))]) hx hb dL_law_1526 hl (k := 6) rfl (by rw [show Int32.ofInt 6 = nI 6 from by decide, nI_add]) (by decide) rfl (fun ls hl => ?_)
                                                    refine lv_goto (tgt := 23) hx hb dL_law_1529 (by decide) ?_
                                                    cases h_e hM
                                                    exact hk hw (lv_sub hl [3, 4, 5, 6, 0] rfl)
                                                  · replace hM := h_t hc hM
                                                    refine lv_aload_n hx hb dL_law_1361 rfl (lv_at hl 5 rfl) ?_
                                                    refine lv_iconst (v := (0 : Int32)) hx hb dL_law_1362 (by decide) ?_
                                                    refine a_lald (σ := aG r1346.2) (o := 125) C hw rfl (aIn_v (by decide)) (show (0 : Int32).toNatClampNeg = 0 by decide) dL_law_1363 ?_
                                                    refine lv_lload hx hb dL_law_1364 (lv_at hl 0 rfl) ?_
                                                    refine W.lcmp hx hb dL_law_1366 ?_
                                                    refine lv_if_eq (tgt := 1372) hx hb dL_law_1367 (by decide) (fun hc => ?_) (fun hc => ?_)
                                                    · replace hM := h_t hc hM
                                                      refine lv_goto (tgt := 1526) hx hb dL_law_1372 (by decide) ?_
                                                      refine lv_iinc (v := nI (n + 6)) (lv' := [(4, .int (nI (n + 6))), (6, .long r1340.1), (5, .int r1294.1), (0, .ref b), (1, .ref (ad 0)), (2, .ref (ad 109)), (3, .ref (ad 125))]) hx hb dL_law_1526 hl (k := 6) rfl (by rw [show Int32.ofInt 6 = nI 6 from by decide, nI_add]) (by decide) rfl (fun ls hl => ?_)
                                                      refine lv_goto (tgt := 23) hx hb dL_law_1529 (by decide) ?_
                                                      cases h_e hM
                                                      exact hk hw (lv_sub hl [3, 4, 5, 6, 0] rfl)
                                                    · replace hM := h_f hc hM
                                                      refine lv_iconst (v := (0 : Int32)) hx hb dL_law_1370 (by decide) ?_
                                                      exact absurd (congrArg Prod.fst (h_e hM)) (by simp)
                                                · replace hM := h_f hc hM
                                                  refine lv_iconst (v := (0 : Int32)) hx hb dL_law_1354 (by decide) ?_
                                                  exact absurd (congrArg Prod.fst (h_e hM)) (by simp)
                                            · replace hM := h_f hc hM
                                              refine lv_iconst (v := (1 : Int32)) hx hb dL_law_1315 (by decide) ?_
                                              refine lv_goto (tgt := 1320) hx hb dL_law_1316 (by decide) ?_
                                              refine lv_aload_n hx hb dL_law_1320 rfl (lv_at hl 1 rfl) ?_
                                              refine lv_iload hx hb dL_law_1321 (lv_at hl 5 rfl) ?_
                                              refine lv_iconst (v := (3 : Int32)) hx hb dL_law_1323 (by decide) ?_
                                              refine lv_iadd hx hb dL_law_1324 ?_
                                              refine s_sld (n := n) (k := 3) C hw hX hbl hbA (nI_ad n 3) (by omega) hL h3 dL_law_1325 ?_
                                              refine lv_if_eq (tgt := 1333) hx hb dL_law_1326 (by decide) (fun hc => ?_) (fun hc => ?_)
                                              · replace hM := h_t hc hM
                                                refine lv_iconst (v := (0 : Int32)) hx hb dL_law_1333 (by decide) ?_
                                                refine lv_aload_n hx hb dL_law_1334 rfl (lv_at hl 1 rfl) ?_
                                                refine lv_iload hx hb dL_law_1335 (lv_at hl 5 rfl) ?_
                                                refine lv_iconst (v := (4 : Int32)) hx hb dL_law_1337 (by decide) ?_
                                                refine lv_iadd hx hb dL_law_1338 ?_
                                                refine s_sld (n := n) (k := 4) C hw hX hbl hbA (nI_ad n 4) (by omega) hL h4 dL_law_1339 ?_
                                                obtain ⟨r1340, hr1340, hM⟩ := h_b hM
                                                refine a_callV (σ' := aG r1340.2) (v := (some (.long r1340.1))) (As := fun ad => [.int a1, .int (1 : Int32), .int (0 : Int32), .int a4]) (rest := []) (o := 109) C hw (c_X7_odds l hr1340) k_X7_odds wM_L_151 ⟨⟨rfl, rfl⟩, ⟨Nat.le_of_ble_eq_true rfl, Nat.le_of_ble_eq_true rfl⟩⟩ rfl (by decide) rfl rfl rfl hl rfl (Nat.le_of_ble_eq_true rfl) dL_law_1340 hcs (fun H locs hw => ?_)
                                                refine lv_lstore (lv' := [(6, .long r1340.1), (5, .int r1294.1), (0, .ref b), (1, .ref (ad 0)), (2, .ref (ad 109)), (3, .ref (ad 125)), (4, .int (nI n))]) hx hb dL_law_1343 hl (by decide) rfl (fun ls hl => ?_)
                                                refine lv_aload_n hx hb dL_law_1345 rfl (lv_at hl 4 rfl) ?_
                                                obtain ⟨r1346, hr1346, hM⟩ := h_b hM
                                                refine a_callV (σ' := aG r1346.2) (v := (some (.int r1346.1))) (As := fun ad => []) (rest := []) (o := 109) C hw (c_X7_thrown l hr1346) k_X7_thrown wM_L_91 ⟨⟨rfl, rfl⟩, ⟨Nat.le_of_ble_eq_true rfl, Nat.le_of_ble_eq_true rfl⟩⟩ rfl (by decide) rfl rfl rfl hl rfl (Nat.le_of_ble_eq_true rfl) dL_law_1346 hcs (fun H locs hw => ?_)
                                                refine lv_iload hx hb dL_law_1349 (lv_at hl 1 rfl) ?_
                                                refine lv_icmp_eq (tgt := 1356) hx hb dL_law_1351 (by decide) (fun hc => ?_) (fun hc => ?_)
                                                · replace hM := h_t hc hM
                                                  refine lv_iload hx hb dL_law_1356 (lv_at hl 1 rfl) ?_
                                                  refine lv_if_ne (tgt := 1372) hx hb dL_law_1358 (by decide) (fun hc => ?_) (fun hc => ?_)
                                                  · replace hM := h_f hc hM
                                                    refine lv_goto (tgt := 1526) hx hb dL_law_1372 (by decide) ?_
                                                    refine lv_iinc (v := nI (n + 6)) (lv' := [(4, .int (nI (n + 6))), (6, .long r1340.1), (5, .int r1294.1), (0, .ref b), (1, .ref (ad 0)), (2, .ref (ad 109)), (3, .ref (ad 125))]) hx hb dL_law_1526 hl (k := 6) rfl (by rw [show Int32.ofInt 6 = nI 6 from by decide, nI_add]) (by decide) rfl (fun ls hl => ?_)
                                                    refine lv_goto (tgt := 23) hx hb dL_law_1529 (by decide) ?_
                                                    cases h_e hM
                                                    exact hk hw (lv_sub hl [3, 4, 5, 6, 0] rfl)
                                                  · replace hM := h_t hc hM
                                                    refine lv_aload_n hx hb dL_law_1361 rfl (lv_at hl 5 rfl) ?_
                                                    refine lv_iconst (v := (0 : Int32)) hx hb dL_law_1362 (by decide) ?_
                                                    refine a_lald (σ := aG r1346.2) (o := 125) C hw rfl (aIn_v (by decide)) (show (0 : Int32).toNatClampNeg = 0 by decide) dL_law_1363 ?_
                                                    refine lv_lload hx hb dL_law_1364 (lv_at hl 0 rfl) ?_
                                                    refine W.lcmp hx hb dL_law_1366 ?_
                                                    refine lv_if_eq (tgt := 1372) hx hb dL_law_1367 (by decide) (fun hc => ?_) (fun hc => ?_)
                                                    · replace hM := h_t hc hM
                                                      refine lv_goto (tgt := 1526) hx hb dL_law_1372 (by decide) ?_
                                                      refine lv_iinc (v := nI (n + 6)) (lv' := [(4, .int (nI (n + 6))), (6, .long r1340.1), (5, .int r1294.1), (0, .ref b), (1, .ref (ad 0)), (2, .ref (ad 109)), (3, .ref (ad 125))]) hx hb dL_law_1526 hl (k := 6) rfl (by rw [show Int32.ofInt 6 = nI 6 from by decide, nI_add]) (by decide) rfl (fun ls hl => ?_)
                                                      refine lv_goto (tgt := 23) hx hb dL_law_1529 (by decide) ?_
                                                      cases h_e hM
                                                      exact hk hw (lv_sub hl [3, 4, 5, 6, 0] rfl)
                                                    · replace hM := h_f hc hM
                                                      refine lv_iconst (v := (0 : Int32)) hx hb dL_law_1370 (by decide) ?_
                                                      exact absurd (congrArg Prod.fst (h_e hM)) (by simp)
                                                · replace hM := h_f hc hM
                                                  refine lv_iconst (v := (0 : Int32)) hx hb dL_law_1354 (by decide) ?_
                                                  exact absurd (congrArg Prod.fst (h_e hM)) (by simp)
                                              · replace hM := h_f hc hM
                                                refine lv_iconst (v := (1 : Int32)) hx hb dL_law_1329 (by decide) ?_
                                                refine lv_goto (tgt := 1334) hx hb dL_law_1330 (by decide) ?_
                                                refine lv_aload_n hx hb dL_law_1334 rfl (lv_at hl 1 rfl) ?_
                                                refine lv_iload hx hb dL_law_1335 (lv_at hl 5 rfl) ?_
                                                refine lv_iconst (v := (4 : Int32)) hx hb dL_law_1337 (by decide) ?_
                                                refine lv_iadd hx hb dL_law_1338 ?_
                                                refine s_sld (n := n) (k := 4) C hw hX hbl hbA (nI_ad n 4) (by omega) hL h4 dL_law_1339 ?_
                                                obtain ⟨r1340, hr1340, hM⟩ := h_b hM
                                                refine a_callV (σ' := aG r1340.2) (v := (some (.long r1340.1))) (As := fun ad => [.int a1, .int (1 : Int32), .int (1 : Int32), .int a4]) (rest := []) (o := 109) C hw (c_X7_odds l hr1340) k_X7_odds wM_L_151 ⟨⟨rfl, rfl⟩, ⟨Nat.le_of_ble_eq_true rfl, Nat.le_of_ble_eq_true rfl⟩⟩ rfl (by decide) rfl rfl rfl hl rfl (Nat.le_of_ble_eq_true rfl) dL_law_1340 hcs (fun H locs hw => ?_)
                                                refine lv_lstore (lv' := [(6, .long r1340.1), (5, .int r1294.1), (0, .ref b), (1, .ref (ad 0)), (2, .ref (ad 109)), (3, .ref (ad 125)), (4, .int (nI n))]) hx hb dL_law_1343 hl (by decide) rfl (fun ls hl => ?_)
                                                refine lv_aload_n hx hb dL_law_1345 rfl (lv_at hl 4 rfl) ?_
                                                obtain ⟨r1346, hr1346, hM⟩ := h_b hM
                                                refine a_callV (σ' := aG r1346.2) (v := (some (.int r1346.1))) (As := fun ad => []) (rest := []) (o := 109) C hw (c_X7_thrown l hr1346) k_X7_thrown wM_L_91 ⟨⟨rfl, rfl⟩, ⟨Nat.le_of_ble_eq_true rfl, Nat.le_of_ble_eq_true rfl⟩⟩ rfl (by decide) rfl rfl rfl hl rfl (Nat.le_of_ble_eq_true rfl) dL_law_1346 hcs (fun H locs hw => ?_)
                                                refine lv_iload hx hb dL_law_1349 (lv_at hl 1 rfl) ?_
                                                refine lv_icmp_eq (tgt := 1356) hx hb dL_law_1351 (by decide) (fun hc => ?_) (fun hc => ?_)
                                                · replace hM := h_t hc hM
                                                  refine lv_iload hx hb dL_law_1356 (lv_at hl 1 rfl) ?_
                                                  refine lv_if_ne (tgt := 1372) hx hb dL_law_1358 (by decide) (fun hc => ?_) (fun hc => ?_)
                                                  · replace hM := h_f hc hM
                                                    refine lv_goto (tgt := 1526) hx hb dL_law_1372 (by decide) ?_
                                                    refine lv_iinc (v := nI (n + 6)) (lv' := [(4, .int (nI (n + 6))), (6, .long r1340.1), (5, .int r1294.1), (0, .ref b), (1, .ref (ad 0)), (2, .ref (ad 109)), (3, .ref (ad 125))]) hx hb dL_law_1526 hl (k := 6) rfl (by rw [show Int32.ofInt 6 = nI 6 from by decide, nI_add]) (by decide) rfl (fun ls hl => ?_)
                                                    refine lv_goto (tgt := 23) hx hb dL_law_1529 (by decide) ?_
                                                    cases h_e hM
                                                    exact hk hw (lv_sub hl [3, 4, 5, 6, 0] rfl)
                                                  · replace hM := h_t hc hM
                                                    refine lv_aload_n hx hb dL_law_1361 rfl (lv_at hl 5 rfl) ?_
                                                    refine lv_iconst (v := (0 : Int32)) hx hb dL_law_1362 (by decide) ?_
                                                    refine a_lald (σ := aG r1346.2) (o := 125) C hw rfl (aIn_v (by decide)) (show (0 : Int32).toNatClampNeg = 0 by decide) dL_law_1363 ?_
                                                    refine lv_lload hx hb dL_law_1364 (lv_at hl 0 rfl) ?_
                                                    refine W.lcmp hx hb dL_law_1366 ?_
                                                    refine lv_if_eq (tgt := 1372) hx hb dL_law_1367 (by decide) (fun hc => ?_) (fun hc => ?_)
                                                    · replace hM := h_t hc hM
                                                      refine lv_goto (tgt := 1526) hx hb dL_law_1372 (by decide) ?_
                                                      refine lv_iinc (v := nI (n + 6)) (lv' := [(4, .int (nI (n + 6))), (6, .long r1340.1), (5, .int r1294.1), (0, .ref b), (1, .ref (ad 0)), (2, .ref (ad 109)), (3, .ref (ad 125))]) hx hb dL_law_1526 hl (k := 6) rfl (by rw [show Int32.ofInt 6 = nI 6 from by decide, nI_add]) (by decide) rfl (fun ls hl => ?_)
                                                      refine lv_goto (tgt := 23) hx hb dL_law_1529 (by decide) ?_
                                                      cases h_e hM
                                                      exact hk hw (lv_sub hl [3, 4, 5, 6, 0] rfl)
                                                    · replace hM := h_f hc hM
                                                      refine lv_iconst (v := (0 : Int32)) hx hb dL_law_1370 (by decide) ?_
                                                      exact absurd (congrArg Prod.fst (h_e hM)) (by simp)
                                                · replace hM := h_f hc hM
                                                  refine lv_iconst (v := (0 : Int32)) hx hb dL_law_1354 (by decide) ?_
                                                  exact absurd (congrArg Prod.fst (h_e hM)) (by simp)
                                          · replace hM := h_f hc hM
                                            refine lv_iconst (v := (1 : Int32)) hx hb dL_law_1282 (by decide) ?_
                                            refine lv_goto (tgt := 1287) hx hb dL_law_1283 (by decide) ?_
                                            refine lv_aload_n hx hb dL_law_1287 rfl (lv_at hl 0 rfl) ?_
                                            refine lv_iload hx hb dL_law_1288 (lv_at hl 4 rfl) ?_
                                            refine lv_iconst (v := (4 : Int32)) hx hb dL_law_1290 (by decide) ?_
                                            refine lv_iadd hx hb dL_law_1291 ?_
                                            refine s_sld (n := n) (k := 4) C hw hX hbl hbA (nI_ad n 4) (by omega) hL h4 dL_law_1292 ?_
                                            refine lv_aload_n hx hb dL_law_1293 rfl (lv_at hl 3 rfl) ?_
                                            obtain ⟨r1294, hr1294, hM⟩ := h_b hM
                                            refine x_callW (σ' := aG r1294.2) (v := (some (.int r1294.1))) (as := fun ad => [.ref (ad 0), .int a1, .int (0 : Int32), .int (1 : Int32), .int a4, .ref (ad 125)]) (rest := []) C hw (cw_odds l hst hr1294) kw_odds wM_L_148 ⟨Nat.le_of_ble_eq_true rfl, Nat.le_of_ble_eq_true rfl⟩ rfl hl rfl (Nat.le_of_ble_eq_true rfl) dL_law_1294 hcs (fun H locs hw => ?_)
                                            refine lv_istore (lv' := [(5, .int r1294.1), (0, .ref b), (1, .ref (ad 0)), (2, .ref (ad 109)), (3, .ref (ad 125)), (4, .int (nI n))]) hx hb dL_law_1297 hl (by decide) rfl (fun ls hl => ?_)
                                            refine lv_aload_n hx hb dL_law_1299 rfl (lv_at hl 3 rfl) ?_
                                            refine lv_aload_n hx hb dL_law_1300 rfl (lv_at hl 1 rfl) ?_
                                            refine lv_iload hx hb dL_law_1301 (lv_at hl 5 rfl) ?_
                                            refine lv_iconst (v := (1 : Int32)) hx hb dL_law_1303 (by decide) ?_
                                            refine lv_iadd hx hb dL_law_1304 ?_
                                            refine s_sld (n := n) (k := 1) C hw hX hbl hbA (nI_ad n 1) (by omega) hL h1 dL_law_1305 ?_
                                            refine lv_aload_n hx hb dL_law_1306 rfl (lv_at hl 1 rfl) ?_
                                            refine lv_iload hx hb dL_law_1307 (lv_at hl 5 rfl) ?_
                                            refine lv_iconst (v := (2 : Int32)) hx hb dL_law_1309 (by decide) ?_
                                            refine lv_iadd hx hb dL_law_1310 ?_
                                            refine s_sld (n := n) (k := 2) C hw hX hbl hbA (nI_ad n 2) (by omega) hL h2 dL_law_1311 ?_
                                            refine lv_if_eq (tgt := 1319) hx hb dL_law_1312 (by decide) (fun hc => ?_) (fun hc => ?_)
                                            · replace hM := h_t hc hM
                                              refine lv_iconst (v := (0 : Int32)) hx hb dL_law_1319 (by decide) ?_
                                              refine lv_aload_n hx hb dL_law_1320 rfl (lv_at hl 1 rfl) ?_
                                              refine lv_iload hx hb dL_law_1321 (lv_at hl 5 rfl) ?_
                                              refine lv_iconst (v := (3 : Int32)) hx hb dL_law_1323 (by decide) ?_
                                              refine lv_iadd hx hb dL_law_1324 ?_
                                              refine s_sld (n := n) (k := 3) C hw hX hbl hbA (nI_ad n 3) (by omega) hL h3 dL_law_1325 ?_
                                              refine lv_if_eq (tgt := 1333) hx hb dL_law_1326 (by decide) (fun hc => ?_) (fun hc => ?_)
                                              · replace hM := h_t hc hM
                                                refine lv_iconst (v := (0 : Int32)) hx hb dL_law_1333 (by decide) ?_
                                                refine lv_aload_n hx hb dL_law_1334 rfl (lv_at hl 1 rfl) ?_
                                                refine lv_iload hx hb dL_law_1335 (lv_at hl 5 rfl) ?_
                                                refine lv_iconst (v := (4 : Int32)) hx hb dL_law_1337 (by decide) ?_
                                                refine lv_iadd hx hb dL_law_1338 ?_
                                                refine s_sld (n := n) (k := 4) C hw hX hbl hbA (nI_ad n 4) (by omega) hL h4 dL_law_1339 ?_
                                                obtain ⟨r1340, hr1340, hM⟩ := h_b hM
                                                refine a_callV (σ' := aG r1340.2) (v := (some (.long r1340.1))) (As := fun ad => [.int a1, .int (0 : Int32), .int (0 : Int32), .int a4]) (rest := []) (o := 109) C hw (c_X7_odds l hr1340) k_X7_odds wM_L_151 ⟨⟨rfl, rfl⟩, ⟨Nat.le_of_ble_eq_true rfl, Nat.le_of_ble_eq_true rfl⟩⟩ rfl (by decide) rfl rfl rfl hl rfl (Nat.le_of_ble_eq_true rfl) dL_law_1340 hcs (fun H locs hw => ?_)
                                                refine lv_lstore (lv' := [(6, .long r1340.1), (5, .int r1294.1), (0, .ref b), (1, .ref (ad 0)), (2, .ref (ad 109)), (3, .ref (ad 125)), (4, .int (nI n))]) hx hb dL_law_1343 hl (by decide) rfl (fun ls hl => ?_)
                                                refine lv_aload_n hx hb dL_law_1345 rfl (lv_at hl 4 rfl) ?_
                                                obtain ⟨r1346, hr1346, hM⟩ := h_b hM
                                                refine a_callV (σ' := aG r1346.2) (v := (some (.int r1346.1))) (As := fun ad => []) (rest := []) (o := 109) C hw (c_X7_thrown l hr1346) k_X7_thrown wM_L_91 ⟨⟨rfl, rfl⟩, ⟨Nat.le_of_ble_eq_true rfl, Nat.le_of_ble_eq_true rfl⟩⟩ rfl (by decide) rfl rfl rfl hl rfl (Nat.le_of_ble_eq_true rfl) dL_law_1346 hcs (fun H locs hw => ?_)
                                                refine lv_iload hx hb dL_law_1349 (lv_at hl 1 rfl) ?_
                                                refine lv_icmp_eq (tgt := 1356) hx hb dL_law_1351 (by decide) (fun hc => ?_) (fun hc => ?_)
                                                · replace hM := h_t hc hM
                                                  refine lv_iload hx hb dL_law_1356 (lv_at hl 1 rfl) ?_
                                                  refine lv_if_ne (tgt := 1372) hx hb dL_law_1358 (by decide) (fun hc => ?_) (fun hc => ?_)
                                                  · replace hM := h_f hc hM
                                                    refine lv_goto (tgt := 1526) hx hb dL_law_1372 (by decide) ?_
                                                    refine lv_iinc (v := nI (n + 6)) (lv' := [(4, .int (nI (n + 6))), (6, .long r1340.1), (5, .int r1294.1), (0, .ref b), (1, .ref (ad 0)), (2, .ref (ad 109)), (3, .ref (ad 125))]) hx hb dL_law_1526 hl (k := 6) rfl (by rw [show Int32.ofInt 6 = nI 6 from by decide, nI_add]) (by decide) rfl (fun ls hl => ?_)
                                                    refine lv_goto (tgt := 23) hx hb dL_law_1529 (by decide) ?_
                                                    cases h_e hM
                                                    exact hk hw (lv_sub hl [3, 4, 5, 6, 0] rfl)
                                                  · replace hM := h_t hc hM
                                                    refine lv_aload_n hx hb dL_law_1361 rfl (lv_at hl 5 rfl) ?_
                                                    refine lv_iconst (v := (0 : Int32)) hx hb dL_law_1362 (by decide) ?_
                                                    refine a_lald (σ := aG r1346.2) (o := 125) C hw rfl (aIn_v (by decide)) (show (0 : Int32).toNatClampNeg = 0 by decide) dL_law_1363 ?_
                                                    refine lv_lload hx hb dL_law_1364 (lv_at hl 0 rfl) ?_
                                                    refine W.lcmp hx hb dL_law_1366 ?_
                                                    refine lv_if_eq (tgt := 1372) hx hb dL_law_1367 (by decide) (fun hc => ?_) (fun hc => ?_)
                                                    · replace hM := h_t hc hM
                                                      refine lv_goto (tgt := 1526) hx hb dL_law_1372 (by decide) ?_
                                                      refine lv_iinc (v := nI (n + 6)) (lv' := [(4, .int (nI (n + 6))), (6, .long r1340.1), (5, .int r1294.1), (0, .ref b), (1, .ref (ad 0)), (2, .ref (ad 109)), (3, .ref (ad 125))]) hx hb dL_law_1526 hl (k := 6) rfl (by rw [show Int32.ofInt 6 = nI 6 from by decide, nI_add]) (by decide) rfl (fun ls hl => ?_)
                                                      refine lv_goto (tgt := 23) hx hb dL_law_1529 (by decide) ?_
                                                      cases h_e hM
                                                      exact hk hw (lv_sub hl [3, 4, 5, 6, 0] rfl)
                                                    · replace hM := h_f hc hM
                                                      refine lv_iconst (v := (0 : Int32)) hx hb dL_law_1370 (by decide) ?_
                                                      exact absurd (congrArg Prod.fst (h_e hM)) (by simp)
                                                · replace hM := h_f hc hM
                                                  refine lv_iconst (v := (0 : Int32)) hx hb dL_law_1354 (by decide) ?_
                                                  exact absurd (congrArg Prod.fst (h_e hM)) (by simp)
                                              · replace hM := h_f hc hM
                                                refine lv_iconst (v := (1 : Int32)) hx hb dL_law_1329 (by decide) ?_
                                                refine lv_goto (tgt := 1334) hx hb dL_law_1330 (by decide) ?_
                                                refine lv_aload_n hx hb dL_law_1334 rfl (lv_at hl 1 rfl) ?_
                                                refine lv_iload hx hb dL_law_1335 (lv_at hl 5 rfl) ?_
                                                refine lv_iconst (v := (4 : Int32)) hx hb dL_law_1337 (by decide) ?_
                                                refine lv_iadd hx hb dL_law_1338 ?_
                                                refine s_sld (n := n) (k := 4) C hw hX hbl hbA (nI_ad n 4) (by omega) hL h4 dL_law_1339 ?_
                                                obtain ⟨r1340, hr1340, hM⟩ := h_b hM
                                                refine a_callV (σ' := aG r1340.2) (v := (some (.long r1340.1))) (As := fun ad => [.int a1, .int (0 : Int32), .int (1 : Int32), .int a4]) (rest := []) (o := 109) C hw (c_X7_odds l hr1340) k_X7_odds wM_L_151 ⟨⟨rfl, rfl⟩, ⟨Nat.le_of_ble_eq_true rfl, Nat.le_of_ble_eq_true rfl⟩⟩ rfl (by decide) rfl rfl rfl hl rfl (Nat.le_of_ble_eq_true rfl) dL_law_1340 hcs (fun H locs hw => ?_)
                                                refine lv_lstore (lv' := [(6, .long r1340.1), (5, .int r1294.1), (0, .ref b), (1, .ref (ad 0)), (2, .ref (ad 109)), (3, .ref (ad 125)), (4, .int (nI n))]) hx hb dL_law_1343 hl (by decide) rfl (fun ls hl => ?_)
                                                refine lv_aload_n hx hb dL_law_1345 rfl (lv_at hl 4 rfl) ?_
                                                obtain ⟨r1346, hr1346, hM⟩ := h_b hM
                                                refine a_callV (σ' := aG r1346.2) (v := (some (.int r1346.1))) (As := fun ad => []) (rest := []) (o := 109) C hw (c_X7_thrown l hr1346) k_X7_thrown wM_L_91 ⟨⟨rfl, rfl⟩, ⟨Nat.le_of_ble_eq_true rfl, Nat.le_of_ble_eq_true rfl⟩⟩ rfl (by decide) rfl rfl rfl hl rfl (Nat.le_of_ble_eq_true rfl) dL_law_1346 hcs (fun H locs hw => ?_)
                                                refine lv_iload hx hb dL_law_1349 (lv_at hl 1 rfl) ?_
                                                refine lv_icmp_eq (tgt := 1356) hx hb dL_law_1351 (by decide) (fun hc => ?_) (fun hc => ?_)
                                                · replace hM := h_t hc hM
                                                  refine lv_iload hx hb dL_law_1356 (lv_at hl 1 rfl) ?_
                                                  refine lv_if_ne (tgt := 1372) hx hb dL_law_1358 (by decide) (fun hc => ?_) (fun hc => ?_)
                                                  · replace hM := h_f hc hM
                                                    refine lv_goto (tgt := 1526) hx hb dL_law_1372 (by decide) ?_
                                                    refine lv_iinc (v := nI (n + 6)) (lv' := [(4, .int (nI (n + 6))), (6, .long r1340.1), (5, .int r1294.1), (0, .ref b), (1, .ref (ad 0)), (2, .ref (ad 109)), (3, .ref (ad 125))]) hx hb dL_law_1526 hl (k := 6) rfl (by rw [show Int32.ofInt 6 = nI 6 from by decide, nI_add]) (by decide) rfl (fun ls hl => ?_)
                                                    refine lv_goto (tgt := 23) hx hb dL_law_1529 (by decide) ?_
                                                    cases h_e hM
                                                    exact hk hw (lv_sub hl [3, 4, 5, 6, 0] rfl)
                                                  · replace hM := h_t hc hM
                                                    refine lv_aload_n hx hb dL_law_1361 rfl (lv_at hl 5 rfl) ?_
                                                    refine lv_iconst (v := (0 : Int32)) hx hb dL_law_1362 (by decide) ?_
                                                    refine a_lald (σ := aG r1346.2) (o := 125) C hw rfl (aIn_v (by decide)) (show (0 : Int32).toNatClampNeg = 0 by decide) dL_law_1363 ?_
                                                    refine lv_lload hx hb dL_law_1364 (lv_at hl 0 rfl) ?_
                                                    refine W.lcmp hx hb dL_law_1366 ?_
                                                    refine lv_if_eq (tgt := 1372) hx hb dL_law_1367 (by decide) (fun hc => ?_) (fun hc => ?_)
                                                    · replace hM := h_t hc hM
                                                      refine lv_goto (tgt := 1526) hx hb dL_law_1372 (by decide) ?_
                                                      refine lv_iinc (v := nI (n + 6)) (lv' := [(4, .int (nI (n + 6))), (6, .long r1340.1), (5, .int r1294.1), (0, .ref b), (1, .ref (ad 0)), (2, .ref (ad 109)), (3, .ref (ad 125))]) hx hb dL_law_1526 hl (k := 6) rfl (by rw [show Int32.ofInt 6 = nI 6 from by decide, nI_add]) (by decide) rfl (fun ls hl => ?_)
                                                      refine lv_goto (tgt := 23) hx hb dL_law_1529 (by decide) ?_
                                                      cases h_e hM
                                                      exact hk hw (lv_sub hl [3, 4, 5, 6, 0] rfl)
                                                    · replace hM := h_f hc hM
                                                      refine lv_iconst (v := (0 : Int32)) hx hb dL_law_1370 (by decide) ?_
                                                      exact absurd (congrArg Prod.fst (h_e hM)) (by simp)
                                                · replace hM := h_f hc hM
                                                  refine lv_iconst (v := (0 : Int32)) hx hb dL_law_1354 (by decide) ?_
                                                  exact absurd (congrArg Prod.fst (h_e hM)) (by simp)
                                            · replace hM := h_f hc hM
                                              refine lv_iconst (v := (1 : Int32)) hx hb dL_law_1315 (by decide) ?_
                                              refine lv_goto (tgt := 1320) hx hb dL_law_1316 (by decide) ?_
                                              refine lv_aload_n hx hb dL_law_1320 rfl (lv_at hl 1 rfl) ?_
                                              refine lv_iload hx hb dL_law_1321 (lv_at hl 5 rfl) ?_
                                              refine lv_iconst (v := (3 : Int32)) hx hb dL_law_1323 (by decide) ?_
                                              refine lv_iadd hx hb dL_law_1324 ?_
                                              refine s_sld (n := n) (k := 3) C hw hX hbl hbA (nI_ad n 3) (by omega) hL h3 dL_law_1325 ?_
                                              refine lv_if_eq (tgt := 1333) hx hb dL_law_1326 (by decide) (fun hc => ?_) (fun hc => ?_)
                                              · replace hM := h_t hc hM
                                                refine lv_iconst (v := (0 : Int32)) hx hb dL_law_1333 (by decide) ?_
                                                refine lv_aload_n hx hb dL_law_1334 rfl (lv_at hl 1 rfl) ?_
                                                refine lv_iload hx hb dL_law_1335 (lv_at hl 5 rfl) ?_
                                                refine lv_iconst (v := (4 : Int32)) hx hb dL_law_1337 (by decide) ?_
                                                refine lv_iadd hx hb dL_law_1338 ?_
                                                refine s_sld (n := n) (k := 4) C hw hX hbl hbA (nI_ad n 4) (by omega) hL h4 dL_law_1339 ?_
                                                obtain ⟨r1340, hr1340, hM⟩ := h_b hM
                                                refine a_callV (σ' := aG r1340.2) (v := (some (.long r1340.1))) (As := fun ad => [.int a1, .int (1 : Int32), .int (0 : Int32), .int a4]) (rest := []) (o := 109) C hw (c_X7_odds l hr1340) k_X7_odds wM_L_151 ⟨⟨rfl, rfl⟩, ⟨Nat.le_of_ble_eq_true rfl, Nat.le_of_ble_eq_true rfl⟩⟩ rfl (by decide) rfl rfl rfl hl rfl (Nat.le_of_ble_eq_true rfl) dL_law_1340 hcs (fun H locs hw => ?_)
                                                refine lv_lstore (lv' := [(6, .long r1340.1), (5, .int r1294.1), (0, .ref b), (1, .ref (ad 0)), (2, .ref (ad 109)), (3, .ref (ad 125)), (4, .int (nI n))]) hx hb dL_law_1343 hl (by decide) rfl (fun ls hl => ?_)
                                                refine lv_aload_n hx hb dL_law_1345 rfl (lv_at hl 4 rfl) ?_
                                                obtain ⟨r1346, hr1346, hM⟩ := h_b hM
                                                refine a_callV (σ' := aG r1346.2) (v := (some (.int r1346.1))) (As := fun ad => []) (rest := []) (o := 109) C hw (c_X7_thrown l hr1346) k_X7_thrown wM_L_91 ⟨⟨rfl, rfl⟩, ⟨Nat.le_of_ble_eq_true rfl, Nat.le_of_ble_eq_true rfl⟩⟩ rfl (by decide) rfl rfl rfl hl rfl (Nat.le_of_ble_eq_true rfl) dL_law_1346 hcs (fun H locs hw => ?_)
                                                refine lv_iload hx hb dL_law_1349 (lv_at hl 1 rfl) ?_
                                                refine lv_icmp_eq (tgt := 1356) hx hb dL_law_1351 (by decide) (fun hc => ?_) (fun hc => ?_)
                                                · replace hM := h_t hc hM
                                                  refine lv_iload hx hb dL_law_1356 (lv_at hl 1 rfl) ?_
                                                  refine lv_if_ne (tgt := 1372) hx hb dL_law_1358 (by decide) (fun hc => ?_) (fun hc => ?_)
                                                  · replace hM := h_f hc hM
                                                    refine lv_goto (tgt := 1526) hx hb dL_law_1372 (by decide) ?_
                                                    refine lv_iinc (v := nI (n + 6)) (lv' := [(4, .int (nI (n + 6))), (6, .long r1340.1), (5, .int r1294.1), (0, .ref b), (1, .ref (ad 0)), (2, .ref (ad 109)), (3, .ref (ad 125))]) hx hb dL_law_1526 hl (k := 6) rfl (by rw [show Int32.ofInt 6 = nI 6 from by decide, nI_add]) (by decide) rfl (fun ls hl => ?_)
                                                    refine lv_goto (tgt := 23) hx hb dL_law_1529 (by decide) ?_
                                                    cases h_e hM
                                                    exact hk hw (lv_sub hl [3, 4, 5, 6, 0] rfl)
                                                  · replace hM := h_t hc hM
                                                    refine lv_aload_n hx hb dL_law_1361 rfl (lv_at hl 5 rfl) ?_
                                                    refine lv_iconst (v := (0 : Int32)) hx hb dL_law_1362 (by decide) ?_
                                                    refine a_lald (σ := aG r1346.2) (o := 125) C hw rfl (aIn_v (by decide)) (show (0 : Int32).toNatClampNeg = 0 by decide) dL_law_1363 ?_
                                                    refine lv_lload hx hb dL_law_1364 (lv_at hl 0 rfl) ?_
                                                    refine W.lcmp hx hb dL_law_1366 ?_
                                                    refine lv_if_eq (tgt := 1372) hx hb dL_law_1367 (by decide) (fun hc => ?_) (fun hc => ?_)
                                                    · replace hM := h_t hc hM
                                                      refine lv_goto (tgt := 1526) hx hb dL_law_1372 (by decide) ?_
                                                      refine lv_iinc (v := nI (n + 6)) (lv' := [(4, .int (nI (n + 6))), (6, .long r1340.1), (5, .int r1294.1), (0, .ref b), (1, .ref (ad 0)), (2, .ref (ad 109)), (3, .ref (ad 125))]) hx hb dL_law_1526 hl (k := 6) rfl (by rw [show Int32.ofInt 6 = nI 6 from by decide, nI_add]) (by decide) rfl (fun ls hl => ?_)
                                                      refine lv_goto (tgt := 23) hx hb dL_law_1529 (by decide) ?_
                                                      cases h_e hM
                                                      exact hk hw (lv_sub hl [3, 4, 5, 6, 0] rfl)
                                                    · replace hM := h_f hc hM
                                                      refine lv_iconst (v := (0 : Int32)) hx hb dL_law_1370 (by decide) ?_
                                                      exact absurd (congrArg Prod.fst (h_e hM)) (by simp)
                                                · replace hM := h_f hc hM
                                                  refine lv_iconst (v := (0 : Int32)) hx hb dL_law_1354 (by decide) ?_
                                                  exact absurd (congrArg Prod.fst (h_e hM)) (by simp)
                                              · replace hM := h_f hc hM
                                                refine lv_iconst (v := (1 : Int32)) hx hb dL_law_1329 (by decide) ?_
                                                refine lv_goto (tgt := 1334) hx hb dL_law_1330 (by decide) ?_
                                                refine lv_aload_n hx hb dL_law_1334 rfl (lv_at hl 1 rfl) ?_
                                                refine lv_iload hx hb dL_law_1335 (lv_at hl 5 rfl) ?_
                                                refine lv_iconst (v := (4 : Int32)) hx hb dL_law_1337 (by decide) ?_
                                                refine lv_iadd hx hb dL_law_1338 ?_
                                                refine s_sld (n := n) (k := 4) C hw hX hbl hbA (nI_ad n 4) (by omega) hL h4 dL_law_1339 ?_
                                                obtain ⟨r1340, hr1340, hM⟩ := h_b hM
                                                refine a_callV (σ' := aG r1340.2) (v := (some (.long r1340.1))) (As := fun ad => [.int a1, .int (1 : Int32), .int (1 : Int32), .int a4]) (rest := []) (o := 109) C hw (c_X7_odds l hr1340) k_X7_odds wM_L_151 ⟨⟨rfl, rfl⟩, ⟨Nat.le_of_ble_eq_true rfl, Nat.le_of_ble_eq_true rfl⟩⟩ rfl (by decide) rfl rfl rfl hl rfl (Nat.le_of_ble_eq_true rfl) dL_law_1340 hcs (fun H locs hw => ?_)
                                                refine lv_lstore (lv' := [(6, .long r1340.1), (5, .int r1294.1), (0, .ref b), (1, .ref (ad 0)), (2, .ref (ad 109)), (3, .ref (ad 125)), (4, .int (nI n))]) hx hb dL_law_1343 hl (by decide) rfl (fun ls hl => ?_)
                                                refine lv_aload_n hx hb dL_law_1345 rfl (lv_at hl 4 rfl) ?_
                                                obtain ⟨r1346, hr1346, hM⟩ := h_b hM
                                                refine a_callV (σ' := aG r1346.2) (v := (some (.int r1346.1))) (As := fun ad => []) (rest := []) (o := 109) C hw (c_X7_thrown l hr1346) k_X7_thrown wM_L_91 ⟨⟨rfl, rfl⟩, ⟨Nat.le_of_ble_eq_true rfl, Nat.le_of_ble_eq_true rfl⟩⟩ rfl (by decide) rfl rfl rfl hl rfl (Nat.le_of_ble_eq_true rfl) dL_law_1346 hcs (fun H locs hw => ?_)
                                                refine lv_iload hx hb dL_law_1349 (lv_at hl 1 rfl) ?_
                                                refine lv_icmp_eq (tgt := 1356) hx hb dL_law_1351 (by decide) (fun hc => ?_) (fun hc => ?_)
                                                · replace hM := h_t hc hM
                                                  refine lv_iload hx hb dL_law_1356 (lv_at hl 1 rfl) ?_
                                                  refine lv_if_ne (tgt := 1372) hx hb dL_law_1358 (by decide) (fun hc => ?_) (fun hc => ?_)
                                                  · replace hM := h_f hc hM
                                                    refine lv_goto (tgt := 1526) hx hb dL_law_1372 (by decide) ?_
                                                    refine lv_iinc (v := nI (n + 6)) (lv' := [(4, .int (nI (n + 6))), (6, .long r1340.1), (5, .int r1294.1), (0, .ref b), (1, .ref (ad 0)), (2, .ref (ad 109)), (3, .ref (ad 125))]) hx hb dL_law_1526 hl (k := 6) rfl (by rw [show Int32.ofInt 6 = nI 6 from by decide, nI_add]) (by decide) rfl (fun ls hl => ?_)
                                                    refine lv_goto (tgt := 23) hx hb dL_law_1529 (by decide) ?_
                                                    cases h_e hM
                                                    exact hk hw (lv_sub hl [3, 4, 5, 6, 0] rfl)
                                                  · replace hM := h_t hc hM
                                                    refine lv_aload_n hx hb dL_law_1361 rfl (lv_at hl 5 rfl) ?_
                                                    refine lv_iconst (v := (0 : Int32)) hx hb dL_law_1362 (by decide) ?_
                                                    refine a_lald (σ := aG r1346.2) (o := 125) C hw rfl (aIn_v (by decide)) (show (0 : Int32).toNatClampNeg = 0 by decide) dL_law_1363 ?_
                                                    refine lv_lload hx hb dL_law_1364 (lv_at hl 0 rfl) ?_
                                                    refine W.lcmp hx hb dL_law_1366 ?_
                                                    refine lv_if_eq (tgt := 1372) hx hb dL_law_1367 (by decide) (fun hc => ?_) (fun hc => ?_)
                                                    · replace hM := h_t hc hM
                                                      refine lv_goto (tgt := 1526) hx hb dL_law_1372 (by decide) ?_
                                                      refine lv_iinc (v := nI (n + 6)) (lv' := [(4, .int (nI (n + 6))), (6, .long r1340.1), (5, .int r1294.1), (0, .ref b), (1, .ref (ad 0)), (2, .ref (ad 109)), (3, .ref (ad 125))]) hx hb dL_law_1526 hl (k := 6) rfl (by rw [show Int32.ofInt 6 = nI 6 from by decide, nI_add]) (by decide) rfl (fun ls hl => ?_)
                                                      refine lv_goto (tgt := 23) hx hb dL_law_1529 (by decide) ?_
                                                      cases h_e hM
                                                      exact hk hw (lv_sub hl [3, 4, 5, 6, 0] rfl)
                                                    · replace hM := h_f hc hM
                                                      refine lv_iconst (v := (0 : Int32)) hx hb dL_law_1370 (by decide) ?_
                                                      exact absurd (congrArg Prod.fst (h_e hM)) (by simp)
                                                · replace hM := h_f hc hM
                                                  refine lv_iconst (v := (0 : Int32)) hx hb dL_law_1354 (by decide) ?_
                                                  exact absurd (congrArg Prod.fst (h_e hM)) (by simp)
                                        · replace hM := h_f hc hM
                                          refine lv_iconst (v := (1 : Int32)) hx hb dL_law_1268 (by decide) ?_
                                          refine lv_goto (tgt := 1273) hx hb dL_law_1269 (by decide) ?_
                                          refine lv_aload_n hx hb dL_law_1273 rfl (lv_at hl 0 rfl) ?_
                                          refine lv_iload hx hb dL_law_1274 (lv_at hl 4 rfl) ?_
                                          refine lv_iconst (v := (3 : Int32)) hx hb dL_law_1276 (by decide) ?_
                                          refine lv_iadd hx hb dL_law_1277 ?_
                                          refine s_sld (n := n) (k := 3) C hw hX hbl hbA (nI_ad n 3) (by omega) hL h3 dL_law_1278 ?_
                                          refine lv_if_eq (tgt := 1286) hx hb dL_law_1279 (by decide) (fun hc => ?_) (fun hc => ?_)
                                          · replace hM := h_t hc hM
                                            refine lv_iconst (v := (0 : Int32)) hx hb dL_law_1286 (by decide) ?_
                                            refine lv_aload_n hx hb dL_law_1287 rfl (lv_at hl 0 rfl) ?_
                                            refine lv_iload hx hb dL_law_1288 (lv_at hl 4 rfl) ?_
                                            refine lv_iconst (v := (4 : Int32)) hx hb dL_law_1290 (by decide) ?_
                                            refine lv_iadd hx hb dL_law_1291 ?_
                                            refine s_sld (n := n) (k := 4) C hw hX hbl hbA (nI_ad n 4) (by omega) hL h4 dL_law_1292 ?_
                                            refine lv_aload_n hx hb dL_law_1293 rfl (lv_at hl 3 rfl) ?_
                                            obtain ⟨r1294, hr1294, hM⟩ := h_b hM
                                            refine x_callW (σ' := aG r1294.2) (v := (some (.int r1294.1))) (as := fun ad => [.ref (ad 0), .int a1, .int (1 : Int32), .int (0 : Int32), .int a4, .ref (ad 125)]) (rest := []) C hw (cw_odds l hst hr1294) kw_odds wM_L_148 ⟨Nat.le_of_ble_eq_true rfl, Nat.le_of_ble_eq_true rfl⟩ rfl hl rfl (Nat.le_of_ble_eq_true rfl) dL_law_1294 hcs (fun H locs hw => ?_)
                                            refine lv_istore (lv' := [(5, .int r1294.1), (0, .ref b), (1, .ref (ad 0)), (2, .ref (ad 109)), (3, .ref (ad 125)), (4, .int (nI n))]) hx hb dL_law_1297 hl (by decide) rfl (fun ls hl => ?_)
                                            refine lv_aload_n hx hb dL_law_1299 rfl (lv_at hl 3 rfl) ?_
                                            refine lv_aload_n hx hb dL_law_1300 rfl (lv_at hl 1 rfl) ?_
                                            refine lv_iload hx hb dL_law_1301 (lv_at hl 5 rfl) ?_
                                            refine lv_iconst (v := (1 : Int32)) hx hb dL_law_1303 (by decide) ?_
                                            refine lv_iadd hx hb dL_law_1304 ?_
                                            refine s_sld (n := n) (k := 1) C hw hX hbl hbA (nI_ad n 1) (by omega) hL h1 dL_law_1305 ?_
                                            refine lv_aload_n hx hb dL_law_1306 rfl (lv_at hl 1 rfl) ?_
                                            refine lv_iload hx hb dL_law_1307 (lv_at hl 5 rfl) ?_
                                            refine lv_iconst (v := (2 : Int32)) hx hb dL_law_1309 (by decide) ?_
                                            refine lv_iadd hx hb dL_law_1310 ?_
                                            refine s_sld (n := n) (k := 2) C hw hX hbl hbA (nI_ad n 2) (by omega) hL h2 dL_law_1311 ?_
                                            refine lv_if_eq (tgt := 1319) hx hb dL_law_1312 (by decide) (fun hc => ?_) (fun hc => ?_)
                                            · replace hM := h_t hc hM
                                              refine lv_iconst (v := (0 : Int32)) hx hb dL_law_1319 (by decide) ?_
                                              refine lv_aload_n hx hb dL_law_1320 rfl (lv_at hl 1 rfl) ?_
                                              refine lv_iload hx hb dL_law_1321 (lv_at hl 5 rfl) ?_
                                              refine lv_iconst (v := (3 : Int32)) hx hb dL_law_1323 (by decide) ?_
                                              refine lv_iadd hx hb dL_law_1324 ?_
                                              refine s_sld (n := n) (k := 3) C hw hX hbl hbA (nI_ad n 3) (by omega) hL h3 dL_law_1325 ?_
                                              refine lv_if_eq (tgt := 1333) hx hb dL_law_1326 (by decide) (fun hc => ?_) (fun hc => ?_)
                                              · replace hM := h_t hc hM
                                                refine lv_iconst (v := (0 : Int32)) hx hb dL_law_1333 (by decide) ?_
                                                refine lv_aload_n hx hb dL_law_1334 rfl (lv_at hl 1 rfl) ?_
                                                refine lv_iload hx hb dL_law_1335 (lv_at hl 5 rfl) ?_
                                                refine lv_iconst (v := (4 : Int32)) hx hb dL_law_1337 (by decide) ?_
                                                refine lv_iadd hx hb dL_law_1338 ?_
                                                refine s_sld (n := n) (k := 4) C hw hX hbl hbA (nI_ad n 4) (by omega) hL h4 dL_law_1339 ?_
                                                obtain ⟨r1340, hr1340, hM⟩ := h_b hM
                                                refine a_callV (σ' := aG r1340.2) (v := (some (.long r1340.1))) (As := fun ad => [.int a1, .int (0 : Int32), .int (0 : Int32), .int a4]) (rest := []) (o := 109) C hw (c_X7_odds l hr1340) k_X7_odds wM_L_151 ⟨⟨rfl, rfl⟩, ⟨Nat.le_of_ble_eq_true rfl, Nat.le_of_ble_eq_true rfl⟩⟩ rfl (by decide) rfl rfl rfl hl rfl (Nat.le_of_ble_eq_true rfl) dL_law_1340 hcs (fun H locs hw => ?_)
                                                refine lv_lstore (lv' := [(6, .long r1340.1), (5, .int r1294.1), (0, .ref b), (1, .ref (ad 0)), (2, .ref (ad 109)), (3, .ref (ad 125)), (4, .int (nI n))]) hx hb dL_law_1343 hl (by decide) rfl (fun ls hl => ?_)
                                                refine lv_aload_n hx hb dL_law_1345 rfl (lv_at hl 4 rfl) ?_
                                                obtain ⟨r1346, hr1346, hM⟩ := h_b hM
                                                refine a_callV (σ' := aG r1346.2) (v := (some (.int r1346.1))) (As := fun ad => []) (rest := []) (o := 109) C hw (c_X7_thrown l hr1346) k_X7_thrown wM_L_91 ⟨⟨rfl, rfl⟩, ⟨Nat.le_of_ble_eq_true rfl, Nat.le_of_ble_eq_true rfl⟩⟩ rfl (by decide) rfl rfl rfl hl rfl (Nat.le_of_ble_eq_true rfl) dL_law_1346 hcs (fun H locs hw => ?_)
                                                refine lv_iload hx hb dL_law_1349 (lv_at hl 1 rfl) ?_
                                                refine lv_icmp_eq (tgt := 1356) hx hb dL_law_1351 (by decide) (fun hc => ?_) (fun hc => ?_)
                                                · replace hM := h_t hc hM
                                                  refine lv_iload hx hb dL_law_1356 (lv_at hl 1 rfl) ?_
                                                  refine lv_if_ne (tgt := 1372) hx hb dL_law_1358 (by decide) (fun hc => ?_) (fun hc => ?_)
                                                  · replace hM := h_f hc hM
                                                    refine lv_goto (tgt := 1526) hx hb dL_law_1372 (by decide) ?_
                                                    refine lv_iinc (v := nI (n + 6)) (lv' := [(4, .int (nI (n + 6))), (6, .long r1340.1), (5, .int r1294.1), (0, .ref b), (1, .ref (ad 0)), (2, .ref (ad 109)), (3, .ref (ad 125))]) hx hb dL_law_1526 hl (k := 6) rfl (by rw [show Int32.ofInt 6 = nI 6 from by decide, nI_add]) (by decide) rfl (fun ls hl => ?_)
                                                    refine lv_goto (tgt := 23) hx hb dL_law_1529 (by decide) ?_
                                                    cases h_e hM
                                                    exact hk hw (lv_sub hl [3, 4, 5, 6, 0] rfl)
                                                  · replace hM := h_t hc hM
                                                    refine lv_aload_n hx hb dL_law_1361 rfl (lv_at hl 5 rfl) ?_
                                                    refine lv_iconst (v := (0 : Int32)) hx hb dL_law_1362 (by decide) ?_
                                                    refine a_lald (σ := aG r1346.2) (o := 125) C hw rfl (aIn_v (by decide)) (show (0 : Int32).toNatClampNeg = 0 by decide) dL_law_1363 ?_
                                                    refine lv_lload hx hb dL_law_1364 (lv_at hl 0 rfl) ?_
                                                    refine W.lcmp hx hb dL_law_1366 ?_
                                                    refine lv_if_eq (tgt := 1372) hx hb dL_law_1367 (by decide) (fun hc => ?_) (fun hc => ?_)
                                                    · replace hM := h_t hc hM
                                                      refine lv_goto (tgt := 1526) hx hb dL_law_1372 (by decide) ?_
                                                      refine lv_iinc (v := nI (n + 6)) (lv' := [(4, .int (nI (n + 6))), (6, .long r1340.1), (5, .int r1294.1), (0, .ref b), (1, .ref (ad 0)), (2, .ref (ad 109)), (3, .ref (ad 125))]) hx hb dL_law_1526 hl (k := 6) rfl (by rw [show Int32.ofInt 6 = nI 6 from by decide, nI_add]) (by decide) rfl (fun ls hl => ?_)
                                                      refine lv_goto (tgt := 23) hx hb dL_law_1529 (by decide) ?_
                                                      cases h_e hM
                                                      exact hk hw (lv_sub hl [3, 4, 5, 6, 0] rfl)
                                                    · replace hM := h_f hc hM
                                                      refine lv_iconst (v := (0 : Int32)) hx hb dL_law_1370 (by decide) ?_
                                                      exact absurd (congrArg Prod.fst (h_e hM)) (by simp)
                                                · replace hM := h_f hc hM
                                                  refine lv_iconst (v := (0 : Int32)) hx hb dL_law_1354 (by decide) ?_
                                                  exact absurd (congrArg Prod.fst (h_e hM)) (by simp)
                                              · replace hM := h_f hc hM
                                                refine lv_iconst (v := (1 : Int32)) hx hb dL_law_1329 (by decide) ?_
                                                refine lv_goto (tgt := 1334) hx hb dL_law_1330 (by decide) ?_
                                                refine lv_aload_n hx hb dL_law_1334 rfl (lv_at hl 1 rfl) ?_
                                                refine lv_iload hx hb dL_law_1335 (lv_at hl 5 rfl) ?_
                                                refine lv_iconst (v := (4 : Int32)) hx hb dL_law_1337 (by decide) ?_
                                                refine lv_iadd hx hb dL_law_1338 ?_
                                                refine s_sld (n := n) (k := 4) C hw hX hbl hbA (nI_ad n 4) (by omega) hL h4 dL_law_1339 ?_
                                                obtain ⟨r1340, hr1340, hM⟩ := h_b hM
                                                refine a_callV (σ' := aG r1340.2) (v := (some (.long r1340.1))) (As := fun ad => [.int a1, .int (0 : Int32), .int (1 : Int32), .int a4]) (rest := []) (o := 109) C hw (c_X7_odds l hr1340) k_X7_odds wM_L_151 ⟨⟨rfl, rfl⟩, ⟨Nat.le_of_ble_eq_true rfl, Nat.le_of_ble_eq_true rfl⟩⟩ rfl (by decide) rfl rfl rfl hl rfl (Nat.le_of_ble_eq_true rfl) dL_law_1340 hcs (fun H locs hw => ?_)
                                                refine lv_lstore (lv' := [(6, .long r1340.1), (5, .int r1294.1), (0, .ref b), (1, .ref (ad 0)), (2, .ref (ad 109)), (3, .ref (ad 125)), (4, .int (nI n))]) hx hb dL_law_1343 hl (by decide) rfl (fun ls hl => ?_)
                                                refine lv_aload_n hx hb dL_law_1345 rfl (lv_at hl 4 rfl) ?_
                                                obtain ⟨r1346, hr1346, hM⟩ := h_b hM
                                                refine a_callV (σ' := aG r1346.2) (v := (some (.int r1346.1))) (As := fun ad => []) (rest := []) (o := 109) C hw (c_X7_thrown l hr1346) k_X7_thrown wM_L_91 ⟨⟨rfl, rfl⟩, ⟨Nat.le_of_ble_eq_true rfl, Nat.le_of_ble_eq_true rfl⟩⟩ rfl (by decide) rfl rfl rfl hl rfl (Nat.le_of_ble_eq_true rfl) dL_law_1346 hcs (fun H locs hw => ?_)
                                                refine lv_iload hx hb dL_law_1349 (lv_at hl 1 rfl) ?_
                                                refine lv_icmp_eq (tgt := 1356) hx hb dL_law_1351 (by decide) (fun hc => ?_) (fun hc => ?_)
                                                · replace hM := h_t hc hM
                                                  refine lv_iload hx hb dL_law_1356 (lv_at hl 1 rfl) ?_
                                                  refine lv_if_ne (tgt := 1372) hx hb dL_law_1358 (by decide) (fun hc => ?_) (fun hc => ?_)
                                                  · replace hM := h_f hc hM
                                                    refine lv_goto (tgt := 1526) hx hb dL_law_1372 (by decide) ?_
                                                    refine lv_iinc (v := nI (n + 6)) (lv' := [(4, .int (nI (n + 6))), (6, .long r1340.1), (5, .int r1294.1), (0, .ref b), (1, .ref (ad 0)), (2, .ref (ad 109)), (3, .ref (ad 125))]) hx hb dL_law_1526 hl (k := 6) rfl (by rw [show Int32.ofInt 6 = nI 6 from by decide, nI_add]) (by decide) rfl (fun ls hl => ?_)
                                                    refine lv_goto (tgt := 23) hx hb dL_law_1529 (by decide) ?_
                                                    cases h_e hM
                                                    exact hk hw (lv_sub hl [3, 4, 5, 6, 0] rfl)
                                                  · replace hM := h_t hc hM
                                                    refine lv_aload_n hx hb dL_law_1361 rfl (lv_at hl 5 rfl) ?_
                                                    refine lv_iconst (v := (0 : Int32)) hx hb dL_law_1362 (by decide) ?_
                                                    refine a_lald (σ := aG r1346.2) (o := 125) C hw rfl (aIn_v (by decide)) (show (0 : Int32).toNatClampNeg = 0 by decide) dL_law_1363 ?_
                                                    refine lv_lload hx hb dL_law_1364 (lv_at hl 0 rfl) ?_
                                                    refine W.lcmp hx hb dL_law_1366 ?_
                                                    refine lv_if_eq (tgt := 1372) hx hb dL_law_1367 (by decide) (fun hc => ?_) (fun hc => ?_)
                                                    · replace hM := h_t hc hM
                                                      refine lv_goto (tgt := 1526) hx hb dL_law_1372 (by decide) ?_
                                                      refine lv_iinc (v := nI (n + 6)) (lv' := [(4, .int (nI (n + 6))), (6, .long r1340.1), (5, .int r1294.1), (0, .ref b), (1, .ref (ad 0)), (2, .ref (ad 109)), (3, .ref (ad 125))]) hx hb dL_law_1526 hl (k := 6) rfl (by rw [show Int32.ofInt 6 = nI 6 from by decide, nI_add]) (by decide) rfl (fun ls hl => ?_)
                                                      refine lv_goto (tgt := 23) hx hb dL_law_1529 (by decide) ?_
                                                      cases h_e hM
                                                      exact hk hw (lv_sub hl [3, 4, 5, 6, 0] rfl)
                                                    · replace hM := h_f hc hM
                                                      refine lv_iconst (v := (0 : Int32)) hx hb dL_law_1370 (by decide) ?_
                                                      exact absurd (congrArg Prod.fst (h_e hM)) (by simp)
                                                · replace hM := h_f hc hM
                                                  refine lv_iconst (v := (0 : Int32)) hx hb dL_law_1354 (by decide) ?_
                                                  exact absurd (congrArg Prod.fst (h_e hM)) (by simp)
                                            · replace hM := h_f hc hM
                                              refine lv_iconst (v := (1 : Int32)) hx hb dL_law_1315 (by decide) ?_
                                              refine lv_goto (tgt := 1320) hx hb dL_law_1316 (by decide) ?_
                                              refine lv_aload_n hx hb dL_law_1320 rfl (lv_at hl 1 rfl) ?_
                                              refine lv_iload hx hb dL_law_1321 (lv_at hl 5 rfl) ?_
                                              refine lv_iconst (v := (3 : Int32)) hx hb dL_law_1323 (by decide) ?_
                                              refine lv_iadd hx hb dL_law_1324 ?_
                                              refine s_sld (n := n) (k := 3) C hw hX hbl hbA (nI_ad n 3) (by omega) hL h3 dL_law_1325 ?_
                                              refine lv_if_eq (tgt := 1333) hx hb dL_law_1326 (by decide) (fun hc => ?_) (fun hc => ?_)
                                              · replace hM := h_t hc hM
                                                refine lv_iconst (v := (0 : Int32)) hx hb dL_law_1333 (by decide) ?_
                                                refine lv_aload_n hx hb dL_law_1334 rfl (lv_at hl 1 rfl) ?_
                                                refine lv_iload hx hb dL_law_1335 (lv_at hl 5 rfl) ?_
                                                refine lv_iconst (v := (4 : Int32)) hx hb dL_law_1337 (by decide) ?_
                                                refine lv_iadd hx hb dL_law_1338 ?_
                                                refine s_sld (n := n) (k := 4) C hw hX hbl hbA (nI_ad n 4) (by omega) hL h4 dL_law_1339 ?_
                                                obtain ⟨r1340, hr1340, hM⟩ := h_b hM
                                                refine a_callV (σ' := aG r1340.2) (v := (some (.long r1340.1))) (As := fun ad => [.int a1, .int (1 : Int32), .int (0 : Int32), .int a4]) (rest := []) (o := 109) C hw (c_X7_odds l hr1340) k_X7_odds wM_L_151 ⟨⟨rfl, rfl⟩, ⟨Nat.le_of_ble_eq_true rfl, Nat.le_of_ble_eq_true rfl⟩⟩ rfl (by decide) rfl rfl rfl hl rfl (Nat.le_of_ble_eq_true rfl) dL_law_1340 hcs (fun H locs hw => ?_)
                                                refine lv_lstore (lv' := [(6, .long r1340.1), (5, .int r1294.1), (0, .ref b), (1, .ref (ad 0)), (2, .ref (ad 109)), (3, .ref (ad 125)), (4, .int (nI n))]) hx hb dL_law_1343 hl (by decide) rfl (fun ls hl => ?_)
                                                refine lv_aload_n hx hb dL_law_1345 rfl (lv_at hl 4 rfl) ?_
                                                obtain ⟨r1346, hr1346, hM⟩ := h_b hM
                                                refine a_callV (σ' := aG r1346.2) (v := (some (.int r1346.1))) (As := fun ad => []) (rest := []) (o := 109) C hw (c_X7_thrown l hr1346) k_X7_thrown wM_L_91 ⟨⟨rfl, rfl⟩, ⟨Nat.le_of_ble_eq_true rfl, Nat.le_of_ble_eq_true rfl⟩⟩ rfl (by decide) rfl rfl rfl hl rfl (Nat.le_of_ble_eq_true rfl) dL_law_1346 hcs (fun H locs hw => ?_)
                                                refine lv_iload hx hb dL_law_1349 (lv_at hl 1 rfl) ?_
                                                refine lv_icmp_eq (tgt := 1356) hx hb dL_law_1351 (by decide) (fun hc => ?_) (fun hc => ?_)
                                                · replace hM := h_t hc hM
                                                  refine lv_iload hx hb dL_law_1356 (lv_at hl 1 rfl) ?_
                                                  refine lv_if_ne (tgt := 1372) hx hb dL_law_1358 (by decide) (fun hc => ?_) (fun hc => ?_)
                                                  · replace hM := h_f hc hM
                                                    refine lv_goto (tgt := 1526) hx hb dL_law_1372 (by decide) ?_
                                                    refine lv_iinc (v := nI (n + 6)) (lv' := [(4, .int (nI (n + 6))), (6, .long r1340.1), (5, .int r1294.1), (0, .ref b), (1, .ref (ad 0)), (2, .ref (ad 109)), (3, .ref (ad 125))]) hx hb dL_law_1526 hl (k := 6) rfl (by rw [show Int32.ofInt 6 = nI 6 from by decide, nI_add]) (by decide) rfl (fun ls hl => ?_)
                                                    refine lv_goto (tgt := 23) hx hb dL_law_1529 (by decide) ?_
                                                    cases h_e hM
                                                    exact hk hw (lv_sub hl [3, 4, 5, 6, 0] rfl)
                                                  · replace hM := h_t hc hM
                                                    refine lv_aload_n hx hb dL_law_1361 rfl (lv_at hl 5 rfl) ?_
                                                    refine lv_iconst (v := (0 : Int32)) hx hb dL_law_1362 (by decide) ?_
                                                    refine a_lald (σ := aG r1346.2) (o := 125) C hw rfl (aIn_v (by decide)) (show (0 : Int32).toNatClampNeg = 0 by decide) dL_law_1363 ?_
                                                    refine lv_lload hx hb dL_law_1364 (lv_at hl 0 rfl) ?_
                                                    refine W.lcmp hx hb dL_law_1366 ?_
                                                    refine lv_if_eq (tgt := 1372) hx hb dL_law_1367 (by decide) (fun hc => ?_) (fun hc => ?_)
                                                    · replace hM := h_t hc hM
                                                      refine lv_goto (tgt := 1526) hx hb dL_law_1372 (by decide) ?_
                                                      refine lv_iinc (v := nI (n + 6)) (lv' := [(4, .int (nI (n + 6))), (6, .long r1340.1), (5, .int r1294.1), (0, .ref b), (1, .ref (ad 0)), (2, .ref (ad 109)), (3, .ref (ad 125))]) hx hb dL_law_1526 hl (k := 6) rfl (by rw [show Int32.ofInt 6 = nI 6 from by decide, nI_add]) (by decide) rfl (fun ls hl => ?_)
                                                      refine lv_goto (tgt := 23) hx hb dL_law_1529 (by decide) ?_
                                                      cases h_e hM
                                                      exact hk hw (lv_sub hl [3, 4, 5, 6, 0] rfl)
                                                    · replace hM := h_f hc hM
                                                      refine lv_iconst (v := (0 : Int32)) hx hb dL_law_1370 (by decide) ?_
                                                      exact absurd (congrArg Prod.fst (h_e hM)) (by simp)
                                                · replace hM := h_f hc hM
                                                  refine lv_iconst (v := (0 : Int32)) hx hb dL_law_1354 (by decide) ?_
                                                  exact absurd (congrArg Prod.fst (h_e hM)) (by simp)
                                              · replace hM := h_f hc hM
                                                refine lv_iconst (v := (1 : Int32)) hx hb dL_law_1329 (by decide) ?_
                                                refine lv_goto (tgt := 1334) hx hb dL_law_1330 (by decide) ?_
                                                refine lv_aload_n hx hb dL_law_1334 rfl (lv_at hl 1 rfl) ?_
                                                refine lv_iload hx hb dL_law_1335 (lv_at hl 5 rfl) ?_
                                                refine lv_iconst (v := (4 : Int32)) hx hb dL_law_1337 (by decide) ?_
                                                refine lv_iadd hx hb dL_law_1338 ?_
                                                refine s_sld (n := n) (k := 4) C hw hX hbl hbA (nI_ad n 4) (by omega) hL h4 dL_law_1339 ?_
                                                obtain ⟨r1340, hr1340, hM⟩ := h_b hM
                                                refine a_callV (σ' := aG r1340.2) (v := (some (.long r1340.1))) (As := fun ad => [.int a1, .int (1 : Int32), .int (1 : Int32), .int a4]) (rest := []) (o := 109) C hw (c_X7_odds l hr1340) k_X7_odds wM_L_151 ⟨⟨rfl, rfl⟩, ⟨Nat.le_of_ble_eq_true rfl, Nat.le_of_ble_eq_true rfl⟩⟩ rfl (by decide) rfl rfl rfl hl rfl (Nat.le_of_ble_eq_true rfl) dL_law_1340 hcs (fun H locs hw => ?_)
                                                refine lv_lstore (lv' := [(6, .long r1340.1), (5, .int r1294.1), (0, .ref b), (1, .ref (ad 0)), (2, .ref (ad 109)), (3, .ref (ad 125)), (4, .int (nI n))]) hx hb dL_law_1343 hl (by decide) rfl (fun ls hl => ?_)
                                                refine lv_aload_n hx hb dL_law_1345 rfl (lv_at hl 4 rfl) ?_
                                                obtain ⟨r1346, hr1346, hM⟩ := h_b hM
                                                refine a_callV (σ' := aG r1346.2) (v := (some (.int r1346.1))) (As := fun ad => []) (rest := []) (o := 109) C hw (c_X7_thrown l hr1346) k_X7_thrown wM_L_91 ⟨⟨rfl, rfl⟩, ⟨Nat.le_of_ble_eq_true rfl, Nat.le_of_ble_eq_true rfl⟩⟩ rfl (by decide) rfl rfl rfl hl rfl (Nat.le_of_ble_eq_true rfl) dL_law_1346 hcs (fun H locs hw => ?_)
                                                refine lv_iload hx hb dL_law_1349 (lv_at hl 1 rfl) ?_
                                                refine lv_icmp_eq (tgt := 1356) hx hb dL_law_1351 (by decide) (fun hc => ?_) (fun hc => ?_)
                                                · replace hM := h_t hc hM
                                                  refine lv_iload hx hb dL_law_1356 (lv_at hl 1 rfl) ?_
                                                  refine lv_if_ne (tgt := 1372) hx hb dL_law_1358 (by decide) (fun hc => ?_) (fun hc => ?_)
                                                  · replace hM := h_f hc hM
                                                    refine lv_goto (tgt := 1526) hx hb dL_law_1372 (by decide) ?_
                                                    refine lv_iinc (v := nI (n + 6)) (lv' := [(4, .int (nI (n + 6))), (6, .long r1340.1), (5, .int r1294.1), (0, .ref b), (1, .ref (ad 0)), (2, .ref (ad 109)), (3, .ref (ad 125))]) hx hb dL_law_1526 hl (k := 6) rfl (by rw [show Int32.ofInt 6 = nI 6 from by decide, nI_add]) (by decide) rfl (fun ls hl => ?_)
                                                    refine lv_goto (tgt := 23) hx hb dL_law_1529 (by decide) ?_
                                                    cases h_e hM
                                                    exact hk hw (lv_sub hl [3, 4, 5, 6, 0] rfl)
                                                  · replace hM := h_t hc hM
                                                    refine lv_aload_n hx hb dL_law_1361 rfl (lv_at hl 5 rfl) ?_
                                                    refine lv_iconst (v := (0 : Int32)) hx hb dL_law_1362 (by decide) ?_
                                                    refine a_lald (σ := aG r1346.2) (o := 125) C hw rfl (aIn_v (by decide)) (show (0 : Int32).toNatClampNeg = 0 by decide) dL_law_1363 ?_
                                                    refine lv_lload hx hb dL_law_1364 (lv_at hl 0 rfl) ?_
                                                    refine W.lcmp hx hb dL_law_1366 ?_
                                                    refine lv_if_eq (tgt := 1372) hx hb dL_law_1367 (by decide) (fun hc => ?_) (fun hc => ?_)
                                                    · replace hM := h_t hc hM
                                                      refine lv_goto (tgt := 1526) hx hb dL_law_1372 (by decide) ?_
                                                      refine lv_iinc (v := nI (n + 6)) (lv' := [(4, .int (nI (n + 6))), (6, .long r1340.1), (5, .int r1294.1), (0, .ref b), (1, .ref (ad 0)), (2, .ref (ad 109)), (3, .ref (ad 125))]) hx hb dL_law_1526 hl (k := 6) rfl (by rw [show Int32.ofInt 6 = nI 6 from by decide, nI_add]) (by decide) rfl (fun ls hl => ?_)
                                                      refine lv_goto (tgt := 23) hx hb dL_law_1529 (by decide) ?_
                                                      cases h_e hM
                                                      exact hk hw (lv_sub hl [3, 4, 5, 6, 0] rfl)
                                                    · replace hM := h_f hc hM
                                                      refine lv_iconst (v := (0 : Int32)) hx hb dL_law_1370 (by decide) ?_
                                                      exact absurd (congrArg Prod.fst (h_e hM)) (by simp)
                                                · replace hM := h_f hc hM
                                                  refine lv_iconst (v := (0 : Int32)) hx hb dL_law_1354 (by decide) ?_
                                                  exact absurd (congrArg Prod.fst (h_e hM)) (by simp)
                                          · replace hM := h_f hc hM
                                            refine lv_iconst (v := (1 : Int32)) hx hb dL_law_1282 (by decide) ?_
                                            refine lv_goto (tgt := 1287) hx hb dL_law_1283 (by decide) ?_
                                            refine lv_aload_n hx hb dL_law_1287 rfl (lv_at hl 0 rfl) ?_
                                            refine lv_iload hx hb dL_law_1288 (lv_at hl 4 rfl) ?_
                                            refine lv_iconst (v := (4 : Int32)) hx hb dL_law_1290 (by decide) ?_
                                            refine lv_iadd hx hb dL_law_1291 ?_
                                            refine s_sld (n := n) (k := 4) C hw hX hbl hbA (nI_ad n 4) (by omega) hL h4 dL_law_1292 ?_
                                            refine lv_aload_n hx hb dL_law_1293 rfl (lv_at hl 3 rfl) ?_
                                            obtain ⟨r1294, hr1294, hM⟩ := h_b hM
                                            refine x_callW (σ' := aG r1294.2) (v := (some (.int r1294.1))) (as := fun ad => [.ref (ad 0), .int a1, .int (1 : Int32), .int (1 : Int32), .int a4, .ref (ad 125)]) (rest := []) C hw (cw_odds l hst hr1294) kw_odds wM_L_148 ⟨Nat.le_of_ble_eq_true rfl, Nat.le_of_ble_eq_true rfl⟩ rfl hl rfl (Nat.le_of_ble_eq_true rfl) dL_law_1294 hcs (fun H locs hw => ?_)
                                            refine lv_istore (lv' := [(5, .int r1294.1), (0, .ref b), (1, .ref (ad 0)), (2, .ref (ad 109)), (3, .ref (ad 125)), (4, .int (nI n))]) hx hb dL_law_1297 hl (by decide) rfl (fun ls hl => ?_)
                                            refine lv_aload_n hx hb dL_law_1299 rfl (lv_at hl 3 rfl) ?_
                                            refine lv_aload_n hx hb dL_law_1300 rfl (lv_at hl 1 rfl) ?_
                                            refine lv_iload hx hb dL_law_1301 (lv_at hl 5 rfl) ?_
                                            refine lv_iconst (v := (1 : Int32)) hx hb dL_law_1303 (by decide) ?_
                                            refine lv_iadd hx hb dL_law_1304 ?_
                                            refine s_sld (n := n) (k := 1) C hw hX hbl hbA (nI_ad n 1) (by omega) hL h1 dL_law_1305 ?_
                                            refine lv_aload_n hx hb dL_law_1306 rfl (lv_at hl 1 rfl) ?_
                                            refine lv_iload hx hb dL_law_1307 (lv_at hl 5 rfl) ?_
                                            refine lv_iconst (v := (2 : Int32)) hx hb dL_law_1309 (by decide) ?_
                                            refine lv_iadd hx hb dL_law_1310 ?_
                                            refine s_sld (n := n) (k := 2) C hw hX hbl hbA (nI_ad n 2) (by omega) hL h2 dL_law_1311 ?_
                                            refine lv_if_eq (tgt := 1319) hx hb dL_law_1312 (by decide) (fun hc => ?_) (fun hc => ?_)
                                            · replace hM := h_t hc hM
                                              refine lv_iconst (v := (0 : Int32)) hx hb dL_law_1319 (by decide) ?_
                                              refine lv_aload_n hx hb dL_law_1320 rfl (lv_at hl 1 rfl) ?_
                                              refine lv_iload hx hb dL_law_1321 (lv_at hl 5 rfl) ?_
                                              refine lv_iconst (v := (3 : Int32)) hx hb dL_law_1323 (by decide) ?_
                                              refine lv_iadd hx hb dL_law_1324 ?_
                                              refine s_sld (n := n) (k := 3) C hw hX hbl hbA (nI_ad n 3) (by omega) hL h3 dL_law_1325 ?_
                                              refine lv_if_eq (tgt := 1333) hx hb dL_law_1326 (by decide) (fun hc => ?_) (fun hc => ?_)
                                              · replace hM := h_t hc hM
                                                refine lv_iconst (v := (0 : Int32)) hx hb dL_law_1333 (by decide) ?_
                                                refine lv_aload_n hx hb dL_law_1334 rfl (lv_at hl 1 rfl) ?_
                                                refine lv_iload hx hb dL_law_1335 (lv_at hl 5 rfl) ?_
                                                refine lv_iconst (v := (4 : Int32)) hx hb dL_law_1337 (by decide) ?_
                                                refine lv_iadd hx hb dL_law_1338 ?_
                                                refine s_sld (n := n) (k := 4) C hw hX hbl hbA (nI_ad n 4) (by omega) hL h4 dL_law_1339 ?_
                                                obtain ⟨r1340, hr1340, hM⟩ := h_b hM
                                                refine a_callV (σ' := aG r1340.2) (v := (some (.long r1340.1))) (As := fun ad => [.int a1, .int (0 : Int32), .int (0 : Int32), .int a4]) (rest := []) (o := 109) C hw (c_X7_odds l hr1340) k_X7_odds wM_L_151 ⟨⟨rfl, rfl⟩, ⟨Nat.le_of_ble_eq_true rfl, Nat.le_of_ble_eq_true rfl⟩⟩ rfl (by decide) rfl rfl rfl hl rfl (Nat.le_of_ble_eq_true rfl) dL_law_1340 hcs (fun H locs hw => ?_)
                                                refine lv_lstore (lv' := [(6, .long r1340.1), (5, .int r1294.1), (0, .ref b), (1, .ref (ad 0)), (2, .ref (ad 109)), (3, .ref (ad 125)), (4, .int (nI n))]) hx hb dL_law_1343 hl (by decide) rfl (fun ls hl => ?_)
                                                refine lv_aload_n hx hb dL_law_1345 rfl (lv_at hl 4 rfl) ?_
                                                obtain ⟨r1346, hr1346, hM⟩ := h_b hM
                                                refine a_callV (σ' := aG r1346.2) (v := (some (.int r1346.1))) (As := fun ad => []) (rest := []) (o := 109) C hw (c_X7_thrown l hr1346) k_X7_thrown wM_L_91 ⟨⟨rfl, rfl⟩, ⟨Nat.le_of_ble_eq_true rfl, Nat.le_of_ble_eq_true rfl⟩⟩ rfl (by decide) rfl rfl rfl hl rfl (Nat.le_of_ble_eq_true rfl) dL_law_1346 hcs (fun H locs hw => ?_)
                                                refine lv_iload hx hb dL_law_1349 (lv_at hl 1 rfl) ?_
                                                refine lv_icmp_eq (tgt := 1356) hx hb dL_law_1351 (by decide) (fun hc => ?_) (fun hc => ?_)
                                                · replace hM := h_t hc hM
                                                  refine lv_iload hx hb dL_law_1356 (lv_at hl 1 rfl) ?_
                                                  refine lv_if_ne (tgt := 1372) hx hb dL_law_1358 (by decide) (fun hc => ?_) (fun hc => ?_)
                                                  · replace hM := h_f hc hM
                                                    refine lv_goto (tgt := 1526) hx hb dL_law_1372 (by decide) ?_
                                                    refine lv_iinc (v := nI (n + 6)) (lv' := [(4, .int (nI (n + 6))), (6, .long r1340.1), (5, .int r1294.1), (0, .ref b), (1, .ref (ad 0)), (2, .ref (ad 109)), (3, .ref (ad 125))]) hx hb dL_law_1526 hl (k := 6) rfl (by rw [show Int32.ofInt 6 = nI 6 from by decide, nI_add]) (by decide) rfl (fun ls hl => ?_)
                                                    refine lv_goto (tgt := 23) hx hb dL_law_1529 (by decide) ?_
                                                    cases h_e hM
                                                    exact hk hw (lv_sub hl [3, 4, 5, 6, 0] rfl)
                                                  · replace hM := h_t hc hM
                                                    refine lv_aload_n hx hb dL_law_1361 rfl (lv_at hl 5 rfl) ?_
                                                    refine lv_iconst (v := (0 : Int32)) hx hb dL_law_1362 (by decide) ?_
                                                    refine a_lald (σ := aG r1346.2) (o := 125) C hw rfl (aIn_v (by decide)) (show (0 : Int32).toNatClampNeg = 0 by decide) dL_law_1363 ?_
                                                    refine lv_lload hx hb dL_law_1364 (lv_at hl 0 rfl) ?_
                                                    refine W.lcmp hx hb dL_law_1366 ?_
                                                    refine lv_if_eq (tgt := 1372) hx hb dL_law_1367 (by decide) (fun hc => ?_) (fun hc => ?_)
                                                    · replace hM := h_t hc hM
                                                      refine lv_goto (tgt := 1526) hx hb dL_law_1372 (by decide) ?_
                                                      refine lv_iinc (v := nI (n + 6)) (lv' := [(4, .int (nI (n + 6))), (6, .long r1340.1), (5, .int r1294.1), (0, .ref b), (1, .ref (ad 0)), (2, .ref (ad 109)), (3, .ref (ad 125))]) hx hb dL_law_1526 hl (k := 6) rfl (by rw [show Int32.ofInt 6 = nI 6 from by decide, nI_add]) (by decide) rfl (fun ls hl => ?_)
                                                      refine lv_goto (tgt := 23) hx hb dL_law_1529 (by decide) ?_
                                                      cases h_e hM
                                                      exact hk hw (lv_sub hl [3, 4, 5, 6, 0] rfl)
                                                    · replace hM := h_f hc hM
                                                      refine lv_iconst (v := (0 : Int32)) hx hb dL_law_1370 (by decide) ?_
                                                      exact absurd (congrArg Prod.fst (h_e hM)) (by simp)
                                                · replace hM := h_f hc hM
                                                  refine lv_iconst (v := (0 : Int32)) hx hb dL_law_1354 (by decide) ?_
                                                  exact absurd (congrArg Prod.fst (h_e hM)) (by simp)
                                              · replace hM := h_f hc hM
                                                refine lv_iconst (v := (1 : Int32)) hx hb dL_law_1329 (by decide) ?_
                                                refine lv_goto (tgt := 1334) hx hb dL_law_1330 (by decide) ?_
                                                refine lv_aload_n hx hb dL_law_1334 rfl (lv_at hl 1 rfl) ?_
                                                refine lv_iload hx hb dL_law_1335 (lv_at hl 5 rfl) ?_
                                                refine lv_iconst (v := (4 : Int32)) hx hb dL_law_1337 (by decide) ?_
                                                refine lv_iadd hx hb dL_law_1338 ?_
                                                refine s_sld (n := n) (k := 4) C hw hX hbl hbA (nI_ad n 4) (by omega) hL h4 dL_law_1339 ?_
                                                obtain ⟨r1340, hr1340, hM⟩ := h_b hM
                                                refine a_callV (σ' := aG r1340.2) (v := (some (.long r1340.1))) (As := fun ad => [.int a1, .int (0 : Int32), .int (1 : Int32), .int a4]) (rest := []) (o := 109) C hw (c_X7_odds l hr1340) k_X7_odds wM_L_151 ⟨⟨rfl, rfl⟩, ⟨Nat.le_of_ble_eq_true rfl, Nat.le_of_ble_eq_true rfl⟩⟩ rfl (by decide) rfl rfl rfl hl rfl (Nat.le_of_ble_eq_true rfl) dL_law_1340 hcs (fun H locs hw => ?_)
                                                refine lv_lstore (lv' := [(6, .long r1340.1), (5, .int r1294.1), (0, .ref b), (1, .ref (ad 0)), (2, .ref (ad 109)), (3, .ref (ad 125)), (4, .int (nI n))]) hx hb dL_law_1343 hl (by decide) rfl (fun ls hl => ?_)
                                                refine lv_aload_n hx hb dL_law_1345 rfl (lv_at hl 4 rfl) ?_
                                                obtain ⟨r1346, hr1346, hM⟩ := h_b hM
                                                refine a_callV (σ' := aG r1346.2) (v := (some (.int r1346.1))) (As := fun ad => []) (rest := []) (o := 109) C hw (c_X7_thrown l hr1346) k_X7_thrown wM_L_91 ⟨⟨rfl, rfl⟩, ⟨Nat.le_of_ble_eq_true rfl, Nat.le_of_ble_eq_true rfl⟩⟩ rfl (by decide) rfl rfl rfl hl rfl (Nat.le_of_ble_eq_true rfl) dL_law_1346 hcs (fun H locs hw => ?_)
                                                refine lv_iload hx hb dL_law_1349 (lv_at hl 1 rfl) ?_
                                                refine lv_icmp_eq (tgt := 1356) hx hb dL_law_1351 (by decide) (fun hc => ?_) (fun hc => ?_)
                                                · replace hM := h_t hc hM
                                                  refine lv_iload hx hb dL_law_1356 (lv_at hl 1 rfl) ?_
                                                  refine lv_if_ne (tgt := 1372) hx hb dL_law_1358 (by decide) (fun hc => ?_) (fun hc => ?_)
                                                  · replace hM := h_f hc hM
                                                    refine lv_goto (tgt := 1526) hx hb dL_law_1372 (by decide) ?_
                                                    refine lv_iinc (v := nI (n + 6)) (lv' := [(4, .int (nI (n + 6))), (6, .long r1340.1), (5, .int r1294.1), (0, .ref b), (1, .ref (ad 0)), (2, .ref (ad 109)), (3, .ref (ad 125))]) hx hb dL_law_1526 hl (k := 6) rfl (by rw [show Int32.ofInt 6 = nI 6 from by decide, nI_add]) (by decide) rfl (fun ls hl => ?_)
                                                    refine lv_goto (tgt := 23) hx hb dL_law_1529 (by decide) ?_
                                                    cases h_e hM
                                                    exact hk hw (lv_sub hl [3, 4, 5, 6, 0] rfl)
                                                  · replace hM := h_t hc hM
                                                    refine lv_aload_n hx hb dL_law_1361 rfl (lv_at hl 5 rfl) ?_
                                                    refine lv_iconst (v := (0 : Int32)) hx hb dL_law_1362 (by decide) ?_
                                                    refine a_lald (σ := aG r1346.2) (o := 125) C hw rfl (aIn_v (by decide)) (show (0 : Int32).toNatClampNeg = 0 by decide) dL_law_1363 ?_
                                                    refine lv_lload hx hb dL_law_1364 (lv_at hl 0 rfl) ?_
                                                    refine W.lcmp hx hb dL_law_1366 ?_
                                                    refine lv_if_eq (tgt := 1372) hx hb dL_law_1367 (by decide) (fun hc => ?_) (fun hc => ?_)
                                                    · replace hM := h_t hc hM
                                                      refine lv_goto (tgt := 1526) hx hb dL_law_1372 (by decide) ?_
                                                      refine lv_iinc (v := nI (n + 6)) (lv' := [(4, .int (nI (n + 6))), (6, .long r1340.1), (5, .int r1294.1), (0, .ref b), (1, .ref (ad 0)), (2, .ref (ad 109)), (3, .ref (ad 125))]) hx hb dL_law_1526 hl (k := 6) rfl (by rw [show Int32.ofInt 6 = nI 6 from by decide, nI_add]) (by decide) rfl (fun ls hl => ?_)
                                                      refine lv_goto (tgt := 23) hx hb dL_law_1529 (by decide) ?_
                                                      cases h_e hM
                                                      exact hk hw (lv_sub hl [3, 4, 5, 6, 0] rfl)
                                                    · replace hM := h_f hc hM
                                                      refine lv_iconst (v := (0 : Int32)) hx hb dL_law_1370 (by decide) ?_
                                                      exact absurd (congrArg Prod.fst (h_e hM)) (by simp)
                                                · replace hM := h_f hc hM
                                                  refine lv_iconst (v := (0 : Int32)) hx hb dL_law_1354 (by decide) ?_
                                                  exact absurd (congrArg Prod.fst (h_e hM)) (by simp)
                                            · replace hM := h_f hc hM
                                              refine lv_iconst (v := (1 : Int32)) hx hb dL_law_1315 (by decide) ?_
                                              refine lv_goto (tgt := 1320) hx hb dL_law_1316 (by decide) ?_
                                              refine lv_aload_n hx hb dL_law_1320 rfl (lv_at hl 1 rfl) ?_
                                              refine lv_iload hx hb dL_law_1321 (lv_at hl 5 rfl) ?_
                                              refine lv_iconst (v := (3 : Int32)) hx hb dL_law_1323 (by decide) ?_
                                              refine lv_iadd hx hb dL_law_1324 ?_
                                              refine s_sld (n := n) (k := 3) C hw hX hbl hbA (nI_ad n 3) (by omega) hL h3 dL_law_1325 ?_
                                              refine lv_if_eq (tgt := 1333) hx hb dL_law_1326 (by decide) (fun hc => ?_) (fun hc => ?_)
                                              · replace hM := h_t hc hM
                                                refine lv_iconst (v := (0 : Int32)) hx hb dL_law_1333 (by decide) ?_
                                                refine lv_aload_n hx hb dL_law_1334 rfl (lv_at hl 1 rfl) ?_
                                                refine lv_iload hx hb dL_law_1335 (lv_at hl 5 rfl) ?_
                                                refine lv_iconst (v := (4 : Int32)) hx hb dL_law_1337 (by decide) ?_
                                                refine lv_iadd hx hb dL_law_1338 ?_
                                                refine s_sld (n := n) (k := 4) C hw hX hbl hbA (nI_ad n 4) (by omega) hL h4 dL_law_1339 ?_
                                                obtain ⟨r1340, hr1340, hM⟩ := h_b hM
                                                refine a_callV (σ' := aG r1340.2) (v := (some (.long r1340.1))) (As := fun ad => [.int a1, .int (1 : Int32), .int (0 : Int32), .int a4]) (rest := []) (o := 109) C hw (c_X7_odds l hr1340) k_X7_odds wM_L_151 ⟨⟨rfl, rfl⟩, ⟨Nat.le_of_ble_eq_true rfl, Nat.le_of_ble_eq_true rfl⟩⟩ rfl (by decide) rfl rfl rfl hl rfl (Nat.le_of_ble_eq_true rfl) dL_law_1340 hcs (fun H locs hw => ?_)
                                                refine lv_lstore (lv' := [(6, .long r1340.1), (5, .int r1294.1), (0, .ref b), (1, .ref (ad 0)), (2, .ref (ad 109)), (3, .ref (ad 125)), (4, .int (nI n))]) hx hb dL_law_1343 hl (by decide) rfl (fun ls hl => ?_)
                                                refine lv_aload_n hx hb dL_law_1345 rfl (lv_at hl 4 rfl) ?_
                                                obtain ⟨r1346, hr1346, hM⟩ := h_b hM
                                                refine a_callV (σ' := aG r1346.2) (v := (some (.int r1346.1))) (As := fun ad => []) (rest := []) (o := 109) C hw (c_X7_thrown l hr1346) k_X7_thrown wM_L_91 ⟨⟨rfl, rfl⟩, ⟨Nat.le_of_ble_eq_true rfl, Nat.le_of_ble_eq_true rfl⟩⟩ rfl (by decide) rfl rfl rfl hl rfl (Nat.le_of_ble_eq_true rfl) dL_law_1346 hcs (fun H locs hw => ?_)
                                                refine lv_iload hx hb dL_law_1349 (lv_at hl 1 rfl) ?_
                                                refine lv_icmp_eq (tgt := 1356) hx hb dL_law_1351 (by decide) (fun hc => ?_) (fun hc => ?_)
                                                · replace hM := h_t hc hM
                                                  refine lv_iload hx hb dL_law_1356 (lv_at hl 1 rfl) ?_
                                                  refine lv_if_ne (tgt := 1372) hx hb dL_law_1358 (by decide) (fun hc => ?_) (fun hc => ?_)
                                                  · replace hM := h_f hc hM
                                                    refine lv_goto (tgt := 1526) hx hb dL_law_1372 (by decide) ?_
                                                    refine lv_iinc (v := nI (n + 6)) (lv' := [(4, .int (nI (n + 6))), (6, .long r1340.1), (5, .int r1294.1), (0, .ref b), (1, .ref (ad 0)), (2, .ref (ad 109)), (3, .ref (ad 125))]) hx hb dL_law_1526 hl (k := 6) rfl (by rw [show Int32.ofInt 6 = nI 6 from by decide, nI_add]) (by decide) rfl (fun ls hl => ?_)
                                                    refine lv_goto (tgt := 23) hx hb dL_law_1529 (by decide) ?_
                                                    cases h_e hM
                                                    exact hk hw (lv_sub hl [3, 4, 5, 6, 0] rfl)
                                                  · replace hM := h_t hc hM
                                                    refine lv_aload_n hx hb dL_law_1361 rfl (lv_at hl 5 rfl) ?_
                                                    refine lv_iconst (v := (0 : Int32)) hx hb dL_law_1362 (by decide) ?_
                                                    refine a_lald (σ := aG r1346.2) (o := 125) C hw rfl (aIn_v (by decide)) (show (0 : Int32).toNatClampNeg = 0 by decide) dL_law_1363 ?_
                                                    refine lv_lload hx hb dL_law_1364 (lv_at hl 0 rfl) ?_
                                                    refine W.lcmp hx hb dL_law_1366 ?_
                                                    refine lv_if_eq (tgt := 1372) hx hb dL_law_1367 (by decide) (fun hc => ?_) (fun hc => ?_)
                                                    · replace hM := h_t hc hM
                                                      refine lv_goto (tgt := 1526) hx hb dL_law_1372 (by decide) ?_
                                                      refine lv_iinc (v := nI (n + 6)) (lv' := [(4, .int (nI (n + 6))), (6, .long r1340.1), (5, .int r1294.1), (0, .ref b), (1, .ref (ad 0)), (2, .ref (ad 109)), (3, .ref (ad 125))]) hx hb dL_law_1526 hl (k := 6) rfl (by rw [show Int32.ofInt 6 = nI 6 from by decide, nI_add]) (by decide) rfl (fun ls hl => ?_)
                                                      refine lv_goto (tgt := 23) hx hb dL_law_1529 (by decide) ?_
                                                      cases h_e hM
                                                      exact hk hw (lv_sub hl [3, 4, 5, 6, 0] rfl)
                                                    · replace hM := h_f hc hM
                                                      refine lv_iconst (v := (0 : Int32)) hx hb dL_law_1370 (by decide) ?_
                                                      exact absurd (congrArg Prod.fst (h_e hM)) (by simp)
                                                · replace hM := h_f hc hM
                                                  refine lv_iconst (v := (0 : Int32)) hx hb dL_law_1354 (by decide) ?_
                                                  exact absurd (congrArg Prod.fst (h_e hM)) (by simp)
                                              · replace hM := h_f hc hM
                                                refine lv_iconst (v := (1 : Int32)) hx hb dL_law_1329 (by decide) ?_
                                                refine lv_goto (tgt := 1334) hx hb dL_law_1330 (by decide) ?_
                                                refine lv_aload_n hx hb dL_law_1334 rfl (lv_at hl 1 rfl) ?_
                                                refine lv_iload hx hb dL_law_1335 (lv_at hl 5 rfl) ?_
                                                refine lv_iconst (v := (4 : Int32)) hx hb dL_law_1337 (by decide) ?_
                                                refine lv_iadd hx hb dL_law_1338 ?_
                                                refine s_sld (n := n) (k := 4) C hw hX hbl hbA (nI_ad n 4) (by omega) hL h4 dL_law_1339 ?_
                                                obtain ⟨r1340, hr1340, hM⟩ := h_b hM
                                                refine a_callV (σ' := aG r1340.2) (v := (some (.long r1340.1))) (As := fun ad => [.int a1, .int (1 : Int32), .int (1 : Int32), .int a4]) (rest := []) (o := 109) C hw (c_X7_odds l hr1340) k_X7_odds wM_L_151 ⟨⟨rfl, rfl⟩, ⟨Nat.le_of_ble_eq_true rfl, Nat.le_of_ble_eq_true rfl⟩⟩ rfl (by decide) rfl rfl rfl hl rfl (Nat.le_of_ble_eq_true rfl) dL_law_1340 hcs (fun H locs hw => ?_)
                                                refine lv_lstore (lv' := [(6, .long r1340.1), (5, .int r1294.1), (0, .ref b), (1, .ref (ad 0)), (2, .ref (ad 109)), (3, .ref (ad 125)), (4, .int (nI n))]) hx hb dL_law_1343 hl (by decide) rfl (fun ls hl => ?_)
                                                refine lv_aload_n hx hb dL_law_1345 rfl (lv_at hl 4 rfl) ?_
                                                obtain ⟨r1346, hr1346, hM⟩ := h_b hM
                                                refine a_callV (σ' := aG r1346.2) (v := (some (.int r1346.1))) (As := fun ad => []) (rest := []) (o := 109) C hw (c_X7_thrown l hr1346) k_X7_thrown wM_L_91 ⟨⟨rfl, rfl⟩, ⟨Nat.le_of_ble_eq_true rfl, Nat.le_of_ble_eq_true rfl⟩⟩ rfl (by decide) rfl rfl rfl hl rfl (Nat.le_of_ble_eq_true rfl) dL_law_1346 hcs (fun H locs hw => ?_)
                                                refine lv_iload hx hb dL_law_1349 (lv_at hl 1 rfl) ?_
                                                refine lv_icmp_eq (tgt := 1356) hx hb dL_law_1351 (by decide) (fun hc => ?_) (fun hc => ?_)
                                                · replace hM := h_t hc hM
                                                  refine lv_iload hx hb dL_law_1356 (lv_at hl 1 rfl) ?_
                                                  refine lv_if_ne (tgt := 1372) hx hb dL_law_1358 (by decide) (fun hc => ?_) (fun hc => ?_)
                                                  · replace hM := h_f hc hM
                                                    refine lv_goto (tgt := 1526) hx hb dL_law_1372 (by decide) ?_
                                                    refine lv_iinc (v := nI (n + 6)) (lv' := [(4, .int (nI (n + 6))), (6, .long r1340.1), (5, .int r1294.1), (0, .ref b), (1, .ref (ad 0)), (2, .ref (ad 109)), (3, .ref (ad 125))]) hx hb dL_law_1526 hl (k := 6) rfl (by rw [show Int32.ofInt 6 = nI 6 from by decide, nI_add]) (by decide) rfl (fun ls hl => ?_)
                                                    refine lv_goto (tgt := 23) hx hb dL_law_1529 (by decide) ?_
                                                    cases h_e hM
                                                    exact hk hw (lv_sub hl [3, 4, 5, 6, 0] rfl)
                                                  · replace hM := h_t hc hM
                                                    refine lv_aload_n hx hb dL_law_1361 rfl (lv_at hl 5 rfl) ?_
                                                    refine lv_iconst (v := (0 : Int32)) hx hb dL_law_1362 (by decide) ?_
                                                    refine a_lald (σ := aG r1346.2) (o := 125) C hw rfl (aIn_v (by decide)) (show (0 : Int32).toNatClampNeg = 0 by decide) dL_law_1363 ?_
                                                    refine lv_lload hx hb dL_law_1364 (lv_at hl 0 rfl) ?_
                                                    refine W.lcmp hx hb dL_law_1366 ?_
                                                    refine lv_if_eq (tgt := 1372) hx hb dL_law_1367 (by decide) (fun hc => ?_) (fun hc => ?_)
                                                    · replace hM := h_t hc hM
                                                      refine lv_goto (tgt := 1526) hx hb dL_law_1372 (by decide) ?_
                                                      refine lv_iinc (v := nI (n + 6)) (lv' := [(4, .int (nI (n + 6))), (6, .long r1340.1), (5, .int r1294.1), (0, .ref b), (1, .ref (ad 0)), (2, .ref (ad 109)), (3, .ref (ad 125))]) hx hb dL_law_1526 hl (k := 6) rfl (by rw [show Int32.ofInt 6 = nI 6 from by decide, nI_add]) (by decide) rfl (fun ls hl => ?_)
                                                      refine lv_goto (tgt := 23) hx hb dL_law_1529 (by decide) ?_
                                                      cases h_e hM
                                                      exact hk hw (lv_sub hl [3, 4, 5, 6, 0] rfl)
                                                    · replace hM := h_f hc hM
                                                      refine lv_iconst (v := (0 : Int32)) hx hb dL_law_1370 (by decide) ?_
                                                      exact absurd (congrArg Prod.fst (h_e hM)) (by simp)
                                                · replace hM := h_f hc hM
                                                  refine lv_iconst (v := (0 : Int32)) hx hb dL_law_1354 (by decide) ?_
                                                  exact absurd (congrArg Prod.fst (h_e hM)) (by simp)
                                      · replace hM := h_f hc18 hM
                                        by_cases hc19 : (a0 &&& (31 : Int32)) = 19
                                        · replace hM := h_t hc19 hM
                                          refine lv_tableIn (tgt := 1375) hx hb dL_law_40 (by rw [hc19]; decide) (by rw [hc19]; decide) (off := 1335) (by rw [hc19]; decide) (by decide) ?_
                                          refine lv_aload_n hx hb dL_law_1375 rfl (lv_at hl 1 rfl) ?_
                                          refine lv_aload_n hx hb dL_law_1376 rfl (lv_at hl 0 rfl) ?_
                                          refine lv_iload hx hb dL_law_1377 (lv_at hl 4 rfl) ?_
                                          refine lv_iconst (v := (1 : Int32)) hx hb dL_law_1379 (by decide) ?_
                                          refine lv_iadd hx hb dL_law_1380 ?_
                                          refine s_sld (n := n) (k := 1) C hw hX hbl hbA (nI_ad n 1) (by omega) hL h1 dL_law_1381 ?_
                                          refine lv_aload_n hx hb dL_law_1382 rfl (lv_at hl 3 rfl) ?_
                                          obtain ⟨r1383, hr1383, hM⟩ := h_b hM
                                          refine x_callW (σ' := aG r1383.2) (v := (some (.int r1383.1))) (as := fun ad => [.ref (ad 0), .int a1, .ref (ad 125)]) (rest := []) C hw (cw_cut l hst hr1383) kw_cut wM_L_152 ⟨Nat.le_of_ble_eq_true rfl, Nat.le_of_ble_eq_true rfl⟩ rfl hl rfl (Nat.le_of_ble_eq_true rfl) dL_law_1383 hcs (fun H locs hw => ?_)
                                          refine lv_istore (lv' := [(5, .int r1383.1), (0, .ref b), (1, .ref (ad 0)), (2, .ref (ad 109)), (3, .ref (ad 125)), (4, .int (nI n))]) hx hb dL_law_1386 hl (by decide) rfl (fun ls hl => ?_)
                                          refine lv_aload_n hx hb dL_law_1388 rfl (lv_at hl 3 rfl) ?_
                                          refine lv_aload_n hx hb dL_law_1389 rfl (lv_at hl 1 rfl) ?_
                                          refine lv_iload hx hb dL_law_1390 (lv_at hl 5 rfl) ?_
                                          refine lv_iconst (v := (1 : Int32)) hx hb dL_law_1392 (by decide) ?_
                                          refine lv_iadd hx hb dL_law_1393 ?_
                                          refine s_sld (n := n) (k := 1) C hw hX hbl hbA (nI_ad n 1) (by omega) hL h1 dL_law_1394 ?_
                                          obtain ⟨r1395, hr1395, hM⟩ := h_b hM
                                          refine a_callV (σ' := aG r1395.2) (v := (some (.int r1395.1))) (As := fun ad => [.int a1]) (rest := []) (o := 109) C hw (c_X7_cut l hr1395) k_X7_cut wM_L_154 ⟨⟨rfl, rfl⟩, ⟨Nat.le_of_ble_eq_true rfl, Nat.le_of_ble_eq_true rfl⟩⟩ rfl (by decide) rfl rfl rfl hl rfl (Nat.le_of_ble_eq_true rfl) dL_law_1395 hcs (fun H locs hw => ?_)
                                          refine lv_istore (lv' := [(6, .int r1395.1), (5, .int r1383.1), (0, .ref b), (1, .ref (ad 0)), (2, .ref (ad 109)), (3, .ref (ad 125)), (4, .int (nI n))]) hx hb dL_law_1398 hl (by decide) rfl (fun ls hl => ?_)
                                          refine lv_aload_n hx hb dL_law_1400 rfl (lv_at hl 4 rfl) ?_
                                          obtain ⟨r1401, hr1401, hM⟩ := h_b hM
                                          refine a_callV (σ' := aG r1401.2) (v := (some (.int r1401.1))) (As := fun ad => []) (rest := []) (o := 109) C hw (c_X7_thrown l hr1401) k_X7_thrown wM_L_91 ⟨⟨rfl, rfl⟩, ⟨Nat.le_of_ble_eq_true rfl, Nat.le_of_ble_eq_true rfl⟩⟩ rfl (by decide) rfl rfl rfl hl rfl (Nat.le_of_ble_eq_true rfl) dL_law_1401 hcs (fun H locs hw => ?_)
                                          refine lv_iload hx hb dL_law_1404 (lv_at hl 1 rfl) ?_
                                          refine lv_icmp_eq (tgt := 1411) hx hb dL_law_1406 (by decide) (fun hc => ?_) (fun hc => ?_)
                                          · replace hM := h_t hc hM
                                            refine lv_iload hx hb dL_law_1411 (lv_at hl 1 rfl) ?_
                                            refine lv_if_ne (tgt := 1428) hx hb dL_law_1413 (by decide) (fun hc => ?_) (fun hc => ?_)
                                            · replace hM := h_f hc hM
                                              refine lv_goto (tgt := 1526) hx hb dL_law_1428 (by decide) ?_
                                              refine lv_iinc (v := nI (n + 6)) (lv' := [(4, .int (nI (n + 6))), (6, .int r1395.1), (5, .int r1383.1), (0, .ref b), (1, .ref (ad 0)), (2, .ref (ad 109)), (3, .ref (ad 125))]) hx hb dL_law_1526 hl (k := 6) rfl (by rw [show Int32.ofInt 6 = nI 6 from by decide, nI_add]) (by decide) rfl (fun ls hl => ?_)
                                              refine lv_goto (tgt := 23) hx hb dL_law_1529 (by decide) ?_
                                              cases h_e hM
                                              exact hk hw (lv_sub hl [3, 4, 5, 6, 0] rfl)
                                            · replace hM := h_t hc hM
                                              refine lv_aload_n hx hb dL_law_1416 rfl (lv_at hl 5 rfl) ?_
                                              refine lv_iconst (v := (0 : Int32)) hx hb dL_law_1417 (by decide) ?_
                                              refine a_lald (σ := aG r1401.2) (o := 125) C hw rfl (aIn_v (by decide)) (show (0 : Int32).toNatClampNeg = 0 by decide) dL_law_1418 ?_
                                              refine lv_iload hx hb dL_law_1419 (lv_at hl 0 rfl) ?_
                                              refine lv_i2l hx hb dL_law_1421 rfl ?_
                                              refine W.lcmp hx hb dL_law_1422 ?_
                                              refine lv_if_eq (tgt := 1428) hx hb dL_law_1423 (by decide) (fun hc => ?_) (fun hc => ?_)
                                              · replace hM := h_t hc hM
                                                refine lv_goto (tgt := 1526) hx hb dL_law_1428 (by decide) ?_
                                                refine lv_iinc (v := nI (n + 6)) (lv' := [(4, .int (nI (n + 6))), (6, .int r1395.1), (5, .int r1383.1), (0, .ref b), (1, .ref (ad 0)), (2, .ref (ad 109)), (3, .ref (ad 125))]) hx hb dL_law_1526 hl (k := 6) rfl (by rw [show Int32.ofInt 6 = nI 6 from by decide, nI_add]) (by decide) rfl (fun ls hl => ?_)
                                                refine lv_goto (tgt := 23) hx hb dL_law_1529 (by decide) ?_
                                                cases h_e hM
                                                exact hk hw (lv_sub hl [3, 4, 5, 6, 0] rfl)
                                              · replace hM := h_f hc hM
                                                refine lv_iconst (v := (0 : Int32)) hx hb dL_law_1426 (by decide) ?_
                                                exact absurd (congrArg Prod.fst (h_e hM)) (by simp)
                                          · replace hM := h_f hc hM
                                            refine lv_iconst (v := (0 : Int32)) hx hb dL_law_1409 (by decide) ?_
                                            exact absurd (congrArg Prod.fst (h_e hM)) (by simp)
                                        · replace hM := h_f hc19 hM
                                          by_cases hc20 : (a0 &&& (31 : Int32)) = 20
                                          · replace hM := h_t hc20 hM
                                            refine lv_tableIn (tgt := 1431) hx hb dL_law_40 (by rw [hc20]; decide) (by rw [hc20]; decide) (off := 1391) (by rw [hc20]; decide) (by decide) ?_
                                            refine lv_aload_n hx hb dL_law_1431 rfl (lv_at hl 1 rfl) ?_
                                            refine lv_aload_n hx hb dL_law_1432 rfl (lv_at hl 0 rfl) ?_
                                            refine lv_iload hx hb dL_law_1433 (lv_at hl 4 rfl) ?_
                                            refine lv_iconst (v := (1 : Int32)) hx hb dL_law_1435 (by decide) ?_
                                            refine lv_iadd hx hb dL_law_1436 ?_
                                            refine s_sld (n := n) (k := 1) C hw hX hbl hbA (nI_ad n 1) (by omega) hL h1 dL_law_1437 ?_
                                            refine lv_aload_n hx hb dL_law_1438 rfl (lv_at hl 3 rfl) ?_
                                            obtain ⟨r1439, hr1439, hM⟩ := h_b hM
                                            refine x_callW (σ' := aG r1439.2) (v := (some (.int r1439.1))) (as := fun ad => [.ref (ad 0), .int a1, .ref (ad 125)]) (rest := []) C hw (cw_nudged l hst hr1439) kw_nudged wM_L_155 ⟨Nat.le_of_ble_eq_true rfl, Nat.le_of_ble_eq_true rfl⟩ rfl hl rfl (Nat.le_of_ble_eq_true rfl) dL_law_1439 hcs (fun H locs hw => ?_)
                                            refine lv_istore (lv' := [(5, .int r1439.1), (0, .ref b), (1, .ref (ad 0)), (2, .ref (ad 109)), (3, .ref (ad 125)), (4, .int (nI n))]) hx hb dL_law_1442 hl (by decide) rfl (fun ls hl => ?_)
                                            refine lv_aload_n hx hb dL_law_1444 rfl (lv_at hl 3 rfl) ?_
                                            refine lv_aload_n hx hb dL_law_1445 rfl (lv_at hl 1 rfl) ?_
                                            refine lv_iload hx hb dL_law_1446 (lv_at hl 5 rfl) ?_
                                            refine lv_iconst (v := (1 : Int32)) hx hb dL_law_1448 (by decide) ?_
                                            refine lv_iadd hx hb dL_law_1449 ?_
                                            refine s_sld (n := n) (k := 1) C hw hX hbl hbA (nI_ad n 1) (by omega) hL h1 dL_law_1450 ?_
                                            obtain ⟨r1451, hr1451, hM⟩ := h_b hM
                                            refine a_callV (σ' := aG r1451.2) (v := (some (.int r1451.1))) (As := fun ad => [.int a1]) (rest := []) (o := 109) C hw (c_X7_nudged l hr1451) k_X7_nudged wM_L_157 ⟨⟨rfl, rfl⟩, ⟨Nat.le_of_ble_eq_true rfl, Nat.le_of_ble_eq_true rfl⟩⟩ rfl (by decide) rfl rfl rfl hl rfl (Nat.le_of_ble_eq_true rfl) dL_law_1451 hcs (fun H locs hw => ?_)
                                            refine lv_istore (lv' := [(6, .int r1451.1), (5, .int r1439.1), (0, .ref b), (1, .ref (ad 0)), (2, .ref (ad 109)), (3, .ref (ad 125)), (4, .int (nI n))]) hx hb dL_law_1454 hl (by decide) rfl (fun ls hl => ?_)
                                            refine lv_aload_n hx hb dL_law_1456 rfl (lv_at hl 4 rfl) ?_
                                            obtain ⟨r1457, hr1457, hM⟩ := h_b hM
                                            refine a_callV (σ' := aG r1457.2) (v := (some (.int r1457.1))) (As := fun ad => []) (rest := []) (o := 109) C hw (c_X7_thrown l hr1457) k_X7_thrown wM_L_91 ⟨⟨rfl, rfl⟩, ⟨Nat.le_of_ble_eq_true rfl, Nat.le_of_ble_eq_true rfl⟩⟩ rfl (by decide) rfl rfl rfl hl rfl (Nat.le_of_ble_eq_true rfl) dL_law_1457 hcs (fun H locs hw => ?_)
                                            refine lv_iload hx hb dL_law_1460 (lv_at hl 1 rfl) ?_
                                            refine lv_icmp_eq (tgt := 1467) hx hb dL_law_1462 (by decide) (fun hc => ?_) (fun hc => ?_)
                                            · replace hM := h_t hc hM
                                              refine lv_iload hx hb dL_law_1467 (lv_at hl 1 rfl) ?_
                                              refine lv_if_ne (tgt := 1484) hx hb dL_law_1469 (by decide) (fun hc => ?_) (fun hc => ?_)
                                              · replace hM := h_f hc hM
                                                refine lv_goto (tgt := 1526) hx hb dL_law_1484 (by decide) ?_
                                                refine lv_iinc (v := nI (n + 6)) (lv' := [(4, .int (nI (n + 6))), (6, .int r1451.1), (5, .int r1439.1), (0, .ref b), (1, .ref (ad 0)), (2, .ref (ad 109)), (3, .ref (ad 125))]) hx hb dL_law_1526 hl (k := 6) rfl (by rw [show Int32.ofInt 6 = nI 6 from by decide, nI_add]) (by decide) rfl (fun ls hl => ?_)
                                                refine lv_goto (tgt := 23) hx hb dL_law_1529 (by decide) ?_
                                                cases h_e hM
                                                exact hk hw (lv_sub hl [3, 4, 5, 6, 0] rfl)
                                              · replace hM := h_t hc hM
                                                refine lv_aload_n hx hb dL_law_1472 rfl (lv_at hl 5 rfl) ?_
                                                refine lv_iconst (v := (0 : Int32)) hx hb dL_law_1473 (by decide) ?_
                                                refine a_lald (σ := aG r1457.2) (o := 125) C hw rfl (aIn_v (by decide)) (show (0 : Int32).toNatClampNeg = 0 by decide) dL_law_1474 ?_
                                                refine lv_iload hx hb dL_law_1475 (lv_at hl 0 rfl) ?_
                                                refine lv_i2l hx hb dL_law_1477 rfl ?_
                                                refine W.lcmp hx hb dL_law_1478 ?_
                                                refine lv_if_eq (tgt := 1484) hx hb dL_law_1479 (by decide) (fun hc => ?_) (fun hc => ?_)
                                                · replace hM := h_t hc hM
                                                  refine lv_goto (tgt := 1526) hx hb dL_law_1484 (by decide) ?_
                                                  refine lv_iinc (v := nI (n + 6)) (lv' := [(4, .int (nI (n + 6))), (6, .int r1451.1), (5, .int r1439.1), (0, .ref b), (1, .ref (ad 0)), (2, .ref (ad 109)), (3, .ref (ad 125))]) hx hb dL_law_1526 hl (k := 6) rfl (by rw [show Int32.ofInt 6 = nI 6 from by decide, nI_add]) (by decide) rfl (fun ls hl => ?_)
                                                  refine lv_goto (tgt := 23) hx hb dL_law_1529 (by decide) ?_
                                                  cases h_e hM
                                                  exact hk hw (lv_sub hl [3, 4, 5, 6, 0] rfl)
                                                · replace hM := h_f hc hM
                                                  refine lv_iconst (v := (0 : Int32)) hx hb dL_law_1482 (by decide) ?_
                                                  exact absurd (congrArg Prod.fst (h_e hM)) (by simp)
                                            · replace hM := h_f hc hM
                                              refine lv_iconst (v := (0 : Int32)) hx hb dL_law_1465 (by decide) ?_
                                              exact absurd (congrArg Prod.fst (h_e hM)) (by simp)
                                          · replace hM := h_f hc20 hM
                                            by_cases hc21 : (a0 &&& (31 : Int32)) = 21
                                            · replace hM := h_t hc21 hM
                                              refine lv_tableIn (tgt := 1487) hx hb dL_law_40 (by rw [hc21]; decide) (by rw [hc21]; decide) (off := 1447) (by rw [hc21]; decide) (by decide) ?_
                                              refine lv_aload_n hx hb dL_law_1487 rfl (lv_at hl 1 rfl) ?_
                                              obtain ⟨r1488, hr1488, hM⟩ := h_b hM
                                              refine a_callV (σ' := aG r1488.2) (v := (some (.long r1488.1))) (As := fun ad => []) (rest := []) (o := 0) C hw (c_X6_print l hr1488) k_X6_print wM_L_158 ⟨⟨rfl, rfl⟩, ⟨Nat.le_of_ble_eq_true rfl, Nat.le_of_ble_eq_true rfl⟩⟩ rfl (by decide) rfl rfl rfl hl rfl (Nat.le_of_ble_eq_true rfl) dL_law_1488 ⟨Nat.le_trans (Nat.le_succ _) hcs.1, Nat.le_trans (Nat.le_add_right _ 6) hcs.2⟩ (fun H locs hw => ?_)
                                              refine lv_aload_n hx hb dL_law_1491 rfl (lv_at hl 2 rfl) ?_
                                              obtain ⟨r1492, hr1492, hM⟩ := h_b hM
                                              refine a_callV (σ' := aG r1492.2) (v := (some (.long r1492.1))) (As := fun ad => []) (rest := [.long r1488.1]) (o := 109) C hw (c_X7_print l hr1492) k_X7_print wM_L_162 ⟨⟨rfl, rfl⟩, ⟨Nat.le_of_ble_eq_true rfl, Nat.le_of_ble_eq_true rfl⟩⟩ rfl (by decide) rfl rfl rfl hl rfl (Nat.le_of_ble_eq_true rfl) dL_law_1492 ⟨Nat.le_trans (Nat.le_succ _) hcs.1, Nat.le_trans (Nat.le_add_right _ 6) hcs.2⟩ (fun H locs hw => ?_)
                                              refine W.lcmp hx hb dL_law_1495 ?_
                                              refine lv_if_eq (tgt := 1526) hx hb dL_law_1496 (by decide) (fun hc => ?_) (fun hc => ?_)
                                              · replace hM := h_t hc hM
                                                refine lv_iinc (v := nI (n + 6)) (lv' := [(4, .int (nI (n + 6))), (0, .ref b), (1, .ref (ad 0)), (2, .ref (ad 109)), (3, .ref (ad 125))]) hx hb dL_law_1526 hl (k := 4) rfl (by rw [show Int32.ofInt 6 = nI 6 from by decide, nI_add]) (by decide) rfl (fun ls hl => ?_)
                                                refine lv_goto (tgt := 23) hx hb dL_law_1529 (by decide) ?_
                                                cases h_e hM
                                                exact W.widen (Nat.le_succ _) (Nat.le_add_right _ 6) (hk hw (lv_sub hl [1, 2, 3, 4, 0] rfl))
                                              · replace hM := h_f hc hM
                                                refine lv_iconst (v := (0 : Int32)) hx hb dL_law_1499 (by decide) ?_
                                                exact absurd (congrArg Prod.fst (h_e hM)) (by simp)
                                            · replace hM := h_f hc21 hM
                                              by_cases hc22 : (a0 &&& (31 : Int32)) = 22
                                              · replace hM := h_t hc22 hM
                                                refine lv_tableIn (tgt := 1501) hx hb dL_law_40 (by rw [hc22]; decide) (by rw [hc22]; decide) (off := 1461) (by rw [hc22]; decide) (by decide) ?_
                                                refine lv_aload_n hx hb dL_law_1501 rfl (lv_at hl 1 rfl) ?_
                                                refine lv_aload_n hx hb dL_law_1502 rfl (lv_at hl 0 rfl) ?_
                                                refine lv_iload hx hb dL_law_1503 (lv_at hl 4 rfl) ?_
                                                refine lv_iconst (v := (1 : Int32)) hx hb dL_law_1505 (by decide) ?_
                                                refine lv_iadd hx hb dL_law_1506 ?_
                                                refine s_sld (n := n) (k := 1) C hw hX hbl hbA (nI_ad n 1) (by omega) hL h1 dL_law_1507 ?_
                                                obtain ⟨r1508, hr1508, hM⟩ := h_b hM
                                                refine a_callV (σ' := aG r1508.2) (v := (some (.int r1508.1))) (As := fun ad => [.int a1]) (rest := []) (o := 0) C hw (c_X6_status l hr1508) k_X6_status wM_L_163 ⟨⟨rfl, rfl⟩, ⟨Nat.le_of_ble_eq_true rfl, Nat.le_of_ble_eq_true rfl⟩⟩ rfl (by decide) rfl rfl rfl hl rfl (Nat.le_of_ble_eq_true rfl) dL_law_1508 ⟨Nat.le_trans (Nat.le_succ _) hcs.1, Nat.le_trans (Nat.le_add_right _ 6) hcs.2⟩ (fun H locs hw => ?_)
                                                refine lv_aload_n hx hb dL_law_1511 rfl (lv_at hl 2 rfl) ?_
                                                refine lv_aload_n hx hb dL_law_1512 rfl (lv_at hl 0 rfl) ?_
                                                refine lv_iload hx hb dL_law_1513 (lv_at hl 4 rfl) ?_
                                                refine lv_iconst (v := (1 : Int32)) hx hb dL_law_1515 (by decide) ?_
                                                refine lv_iadd hx hb dL_law_1516 ?_
                                                refine s_sld (n := n) (k := 1) C hw hX hbl hbA (nI_ad n 1) (by omega) hL h1 dL_law_1517 ?_
                                                obtain ⟨r1518, hr1518, hM⟩ := h_b hM
                                                refine a_callV (σ' := aG r1518.2) (v := (some (.int r1518.1))) (As := fun ad => [.int a1]) (rest := [.int r1508.1]) (o := 109) C hw (c_X7_status l hr1518) k_X7_status wM_L_166 ⟨⟨rfl, rfl⟩, ⟨Nat.le_of_ble_eq_true rfl, Nat.le_of_ble_eq_true rfl⟩⟩ rfl (by decide) rfl rfl rfl hl rfl (Nat.le_of_ble_eq_true rfl) dL_law_1518 ⟨Nat.le_trans (Nat.le_succ _) hcs.1, Nat.le_trans (Nat.le_add_right _ 6) hcs.2⟩ (fun H locs hw => ?_)
                                                refine lv_icmp_eq (tgt := 1526) hx hb dL_law_1521 (by decide) (fun hc => ?_) (fun hc => ?_)
                                                · replace hM := h_t hc hM
                                                  refine lv_iinc (v := nI (n + 6)) (lv' := [(4, .int (nI (n + 6))), (0, .ref b), (1, .ref (ad 0)), (2, .ref (ad 109)), (3, .ref (ad 125))]) hx hb dL_law_1526 hl (k := 4) rfl (by rw [show Int32.ofInt 6 = nI 6 from by decide, nI_add]) (by decide) rfl (fun ls hl => ?_)
                                                  refine lv_goto (tgt := 23) hx hb dL_law_1529 (by decide) ?_
                                                  cases h_e hM
                                                  exact W.widen (Nat.le_succ _) (Nat.le_add_right _ 6) (hk hw (lv_sub hl [1, 2, 3, 4, 0] rfl))
                                                · replace hM := h_f hc hM
                                                  refine lv_iconst (v := (0 : Int32)) hx hb dL_law_1524 (by decide) ?_
                                                  exact absurd (congrArg Prod.fst (h_e hM)) (by simp)
                                              · replace hM := h_f hc22 hM
                                                refine lv_tableOut (tgt := 1526) hx hb dL_law_40 (sw_out (lo := 0) (n := 23) (by decide) (by intro k hk; rcases (show k = 0 ∨ k = 1 ∨ k = 2 ∨ k = 3 ∨ k = 4 ∨ k = 5 ∨ k = 6 ∨ k = 7 ∨ k = 8 ∨ k = 9 ∨ k = 10 ∨ k = 11 ∨ k = 12 ∨ k = 13 ∨ k = 14 ∨ k = 15 ∨ k = 16 ∨ k = 17 ∨ k = 18 ∨ k = 19 ∨ k = 20 ∨ k = 21 ∨ k = 22 by omega) with rfl | rfl | rfl | rfl | rfl | rfl | rfl | rfl | rfl | rfl | rfl | rfl | rfl | rfl | rfl | rfl | rfl | rfl | rfl | rfl | rfl | rfl | rfl <;> assumption)) (by decide) ?_
                                                refine lv_iinc (v := nI (n + 6)) (lv' := [(4, .int (nI (n + 6))), (0, .ref b), (1, .ref (ad 0)), (2, .ref (ad 109)), (3, .ref (ad 125))]) hx hb dL_law_1526 hl (k := 4) rfl (by rw [show Int32.ofInt 6 = nI 6 from by decide, nI_add]) (by decide) rfl (fun ls hl => ?_)
                                                refine lv_goto (tgt := 23) hx hb dL_law_1529 (by decide) ?_
                                                cases h_e hM
                                                exact W.widen (Nat.le_succ _) (Nat.le_add_right _ 6) (hk hw (lv_sub hl [1, 2, 3, 4, 0] rfl))
