/-! CHECKS by the kernel: the code words; each instruction of the tables is the bytes' own -/
set_option maxRecDepth 100000 in
theorem gcw11 : gCode 11 ∈ lw_tbl := List.mem_of_getElem? (i := 190) rfl
set_option maxRecDepth 100000 in
theorem gcw12 : gCode 12 ∈ lw_tbl := List.mem_of_getElem? (i := 520) rfl
set_option maxRecDepth 100000 in
theorem gcw13 : gCode 13 ∈ lw_tbl := List.mem_of_getElem? (i := 523) rfl
set_option maxRecDepth 100000 in
theorem gcw14 : gCode 14 ∈ lw_tbl := List.mem_of_getElem? (i := 535) rfl
set_option maxRecDepth 100000 in
theorem gcw15 : gCode 15 ∈ lw_tbl := List.mem_of_getElem? (i := 539) rfl
set_option maxRecDepth 100000 in
theorem gcw16 : gCode 16 ∈ lw_tbl := List.mem_of_getElem? (i := 542) rfl
set_option maxRecDepth 100000 in
theorem gcw17 : gCode 17 ∈ lw_tbl := List.mem_of_getElem? (i := 546) rfl
set_option maxRecDepth 100000 in
theorem gcw18 : gCode 18 ∈ lw_tbl := List.mem_of_getElem? (i := 549) rfl
set_option maxRecDepth 100000 in
theorem gcw19 : gCode 19 ∈ lw_tbl := List.mem_of_getElem? (i := 717) rfl
set_option maxRecDepth 100000 in
theorem gcw20 : gCode 20 ∈ lw_tbl := List.mem_of_getElem? (i := 736) rfl
set_option maxRecDepth 100000 in
theorem gcw21 : gCode 21 ∈ lw_tbl := List.mem_of_getElem? (i := 789) rfl
set_option maxRecDepth 100000 in
theorem gcw22 : gCode 22 ∈ lw_tbl := List.mem_of_getElem? (i := 817) rfl
set_option maxRecDepth 100000 in
theorem gcw23 : gCode 23 ∈ lw_tbl := List.mem_of_getElem? (i := 821) rfl
set_option maxRecDepth 100000 in
theorem gcw24 : gCode 24 ∈ lw_tbl := List.mem_of_getElem? (i := 830) rfl
set_option maxRecDepth 100000 in
theorem gcw25 : gCode 25 ∈ lw_tbl := List.mem_of_getElem? (i := 835) rfl
set_option maxRecDepth 100000 in
theorem gcw26 : gCode 26 ∈ lw_tbl := List.mem_of_getElem? (i := 844) rfl
set_option maxRecDepth 100000 in
theorem gcw27 : gCode 27 ∈ lw_tbl := List.mem_of_getElem? (i := 878) rfl
set_option maxRecDepth 100000 in
theorem gcw28 : gCode 28 ∈ lw_tbl := List.mem_of_getElem? (i := 883) rfl
set_option maxRecDepth 100000 in
theorem gcw29 : gCode 29 ∈ lw_tbl := List.mem_of_getElem? (i := 935) rfl
set_option maxRecDepth 100000 in
theorem gcw30 : gCode 30 ∈ lw_tbl := List.mem_of_getElem? (i := 940) rfl
set_option maxRecDepth 100000 in
theorem gcw31 : gCode 31 ∈ lw_tbl := List.mem_of_getElem? (i := 1141) rfl
set_option maxRecDepth 100000 in
theorem gcw32 : gCode 32 ∈ lw_tbl := List.mem_of_getElem? (i := 1144) rfl
set_option maxRecDepth 100000 in
theorem gcw33 : gCode 33 ∈ lw_tbl := List.mem_of_getElem? (i := 1147) rfl
set_option maxRecDepth 100000 in
theorem gcw34 : gCode 34 ∈ lw_tbl := List.mem_of_getElem? (i := 1151) rfl
set_option maxRecDepth 100000 in
theorem gcw35 : gCode 35 ∈ lw_tbl := List.mem_of_getElem? (i := 1162) rfl
set_option maxRecDepth 100000 in
theorem gcw36 : gCode 36 ∈ lw_tbl := List.mem_of_getElem? (i := 1252) rfl
set_option maxRecDepth 100000 in
theorem gcw37 : gCode 37 ∈ lw_tbl := List.mem_of_getElem? (i := 1260) rfl
set_option maxRecDepth 100000 in
theorem gcw38 : gCode 38 ∈ lw_tbl := List.mem_of_getElem? (i := 1278) rfl
set_option maxRecDepth 100000 in
theorem gcw39 : gCode 39 ∈ lw_tbl := List.mem_of_getElem? (i := 1282) rfl
set_option maxRecDepth 100000 in
theorem gcw40 : gCode 40 ∈ lw_tbl := List.mem_of_getElem? (i := 1290) rfl
set_option maxRecDepth 100000 in
theorem gcw41 : gCode 41 ∈ lw_tbl := List.mem_of_getElem? (i := 1298) rfl
set_option maxRecDepth 100000 in
theorem gcw42 : gCode 42 ∈ lw_tbl := List.mem_of_getElem? (i := 1302) rfl
set_option maxRecDepth 100000 in
theorem gcw43 : gCode 43 ∈ lw_tbl := List.mem_of_getElem? (i := 1306) rfl
set_option maxRecDepth 100000 in
theorem gcw44 : gCode 44 ∈ lw_tbl := List.mem_of_getElem? (i := 1311) rfl
set_option maxRecDepth 100000 in
theorem gcw45 : gCode 45 ∈ lw_tbl := List.mem_of_getElem? (i := 1315) rfl
set_option maxRecDepth 100000 in
theorem gcw46 : gCode 46 ∈ lw_tbl := List.mem_of_getElem? (i := 1318) rfl
set_option maxRecDepth 100000 in
theorem gcw47 : gCode 47 ∈ lw_tbl := List.mem_of_getElem? (i := 1322) rfl
set_option maxRecDepth 100000 in
theorem gcw48 : gCode 48 ∈ lw_tbl := List.mem_of_getElem? (i := 1325) rfl
set_option maxRecDepth 100000 in
theorem gcw49 : gCode 49 ∈ lw_tbl := List.mem_of_getElem? (i := 1333) rfl
set_option maxRecDepth 100000 in
theorem gcw50 : gCode 50 ∈ lw_tbl := List.mem_of_getElem? (i := 1338) rfl
set_option maxRecDepth 100000 in
theorem gcw51 : gCode 51 ∈ lw_tbl := List.mem_of_getElem? (i := 1347) rfl
set_option maxRecDepth 100000 in
theorem gcw52 : gCode 52 ∈ lw_tbl := List.mem_of_getElem? (i := 1364) rfl
set_option maxRecDepth 100000 in
theorem gcw53 : gCode 53 ∈ lw_tbl := List.mem_of_getElem? (i := 1373) rfl
set_option maxRecDepth 100000 in
theorem gcw54 : gCode 54 ∈ lw_tbl := List.mem_of_getElem? (i := 1377) rfl
set_option maxRecDepth 100000 in
theorem gcw55 : gCode 55 ∈ lw_tbl := List.mem_of_getElem? (i := 1381) rfl
set_option maxRecDepth 100000 in
theorem gcw56 : gCode 56 ∈ lw_tbl := List.mem_of_getElem? (i := 1385) rfl
set_option maxRecDepth 100000 in
theorem gcw57 : gCode 57 ∈ lw_tbl := List.mem_of_getElem? (i := 1390) rfl
set_option maxRecDepth 100000 in
theorem gcw58 : gCode 58 ∈ lw_tbl := List.mem_of_getElem? (i := 352) rfl
set_option maxRecDepth 100000 in
theorem gcw59 : gCode 59 ∈ lw_tbl := List.mem_of_getElem? (i := 888) rfl
set_option maxRecDepth 100000 in
theorem gcw60 : gCode 60 ∈ lw_tbl := List.mem_of_getElem? (i := 895) rfl
set_option maxRecDepth 100000 in
theorem gcw61 : gCode 61 ∈ lw_tbl := List.mem_of_getElem? (i := 900) rfl
set_option maxRecDepth 100000 in
theorem gcw62 : gCode 62 ∈ lw_tbl := List.mem_of_getElem? (i := 904) rfl
set_option maxRecDepth 100000 in
theorem gcw63 : gCode 63 ∈ lw_tbl := List.mem_of_getElem? (i := 908) rfl
set_option maxRecDepth 100000 in
theorem gcw64 : gCode 64 ∈ lw_tbl := List.mem_of_getElem? (i := 912) rfl
set_option maxRecDepth 100000 in
theorem gcw65 : gCode 65 ∈ lw_tbl := List.mem_of_getElem? (i := 917) rfl
set_option maxRecDepth 100000 in
theorem gcw66 : gCode 66 ∈ lw_tbl := List.mem_of_getElem? (i := 921) rfl
set_option maxRecDepth 100000 in
theorem gcw67 : gCode 67 ∈ lw_tbl := List.mem_of_getElem? (i := 931) rfl
set_option maxRecDepth 100000 in
theorem gcw68 : gCode 68 ∈ lw_tbl := List.mem_of_getElem? (i := 198) rfl
set_option maxRecDepth 100000 in
theorem gcw69 : gCode 69 ∈ lw_tbl := List.mem_of_getElem? (i := 553) rfl
set_option maxRecDepth 100000 in
theorem gcw70 : gCode 70 ∈ lw_tbl := List.mem_of_getElem? (i := 721) rfl
set_option maxRecDepth 100000 in
theorem gcw71 : gCode 71 ∈ lw_tbl := List.mem_of_getElem? (i := 1264) rfl
set_option maxRecDepth 100000 in
theorem gcw72 : gCode 72 ∈ lw_tbl := List.mem_of_getElem? (i := 1286) rfl
set_option maxRecDepth 100000 in
theorem gcw73 : gCode 73 ∈ lw_tbl := List.mem_of_getElem? (i := 1368) rfl
set_option maxRecDepth 100000 in
theorem gcw74 : gCode 74 ∈ lw_tbl := List.mem_of_getElem? (i := 378) rfl
set_option maxRecDepth 100000 in
theorem gcw75 : gCode 75 ∈ lw_tbl := List.mem_of_getElem? (i := 740) rfl
set_option maxRecDepth 100000 in
theorem gcw76 : gCode 76 ∈ lw_tbl := List.mem_of_getElem? (i := 1215) rfl
set_option maxRecDepth 100000 in
theorem gcw77 : gCode 77 ∈ lw_tbl := List.mem_of_getElem? (i := 1246) rfl
set_option maxRecDepth 100000 in
theorem gcw78 : gCode 78 ∈ lw_tbl := List.mem_of_getElem? (i := 1256) rfl
set_option maxRecDepth 100000 in
theorem gcw79 : gCode 79 ∈ lw_tbl := List.mem_of_getElem? (i := 1274) rfl
set_option maxRecDepth 100000 in
theorem gcw80 : gCode 80 ∈ lw_tbl := List.mem_of_getElem? (i := 761) rfl
set_option maxRecDepth 100000 in
theorem gcw81 : gCode 81 ∈ lw_tbl := List.mem_of_getElem? (i := 865) rfl
set_option maxRecDepth 100000 in
theorem gcw82 : gCode 82 ∈ lw_tbl := List.mem_of_getElem? (i := 978) rfl
set_option maxRecDepth 100000 in
theorem gcw83 : gCode 83 ∈ lw_tbl := List.mem_of_getElem? (i := 1082) rfl
set_option maxRecDepth 100000 in
theorem gcw84 : gCode 84 ∈ lw_tbl := List.mem_of_getElem? (i := 1085) rfl
set_option maxRecDepth 100000 in
theorem gcw85 : gCode 85 ∈ lw_tbl := List.mem_of_getElem? (i := 1189) rfl
set_option maxRecDepth 100000 in
theorem gcw86 : gCode 86 ∈ lw_tbl := List.mem_of_getElem? (i := 1193) rfl
set_option maxRecDepth 100000 in
theorem gcw87 : gCode 87 ∈ lw_tbl := List.mem_of_getElem? (i := 204) rfl
set_option maxRecDepth 100000 in
theorem gcw88 : gCode 88 ∈ lw_tbl := List.mem_of_getElem? (i := 557) rfl
set_option maxRecDepth 100000 in
theorem gcw89 : gCode 89 ∈ lw_tbl := List.mem_of_getElem? (i := 701) rfl
set_option maxRecDepth 100000 in
theorem gcw90 : gCode 90 ∈ lw_tbl := List.mem_of_getElem? (i := 726) rfl
set_option maxRecDepth 100000 in
theorem gcw91 : gCode 91 ∈ lw_tbl := List.mem_of_getElem? (i := 784) rfl
set_option maxRecDepth 100000 in
theorem gcw92 : gCode 92 ∈ lw_tbl := List.mem_of_getElem? (i := 793) rfl
set_option maxRecDepth 100000 in
theorem gcw93 : gCode 93 ∈ lw_tbl := List.mem_of_getElem? (i := 797) rfl
set_option maxRecDepth 100000 in
theorem gcw94 : gCode 94 ∈ lw_tbl := List.mem_of_getElem? (i := 802) rfl
set_option maxRecDepth 100000 in
theorem gcw95 : gCode 95 ∈ lw_tbl := List.mem_of_getElem? (i := 806) rfl
set_option maxRecDepth 100000 in
theorem gcw96 : gCode 96 ∈ lw_tbl := List.mem_of_getElem? (i := 810) rfl
set_option maxRecDepth 100000 in
theorem gcw97 : gCode 97 ∈ lw_tbl := List.mem_of_getElem? (i := 813) rfl
set_option maxRecDepth 100000 in
theorem gcw98 : gCode 98 ∈ lw_tbl := List.mem_of_getElem? (i := 826) rfl
set_option maxRecDepth 100000 in
theorem gcw99 : gCode 99 ∈ lw_tbl := List.mem_of_getElem? (i := 839) rfl
set_option maxRecDepth 100000 in
theorem gcw100 : gCode 100 ∈ lw_tbl := List.mem_of_getElem? (i := 848) rfl
set_option maxRecDepth 100000 in
theorem gcw101 : gCode 101 ∈ lw_tbl := List.mem_of_getElem? (i := 853) rfl
set_option maxRecDepth 100000 in
theorem gcw102 : gCode 102 ∈ lw_tbl := List.mem_of_getElem? (i := 857) rfl
set_option maxRecDepth 100000 in
theorem gcw103 : gCode 103 ∈ lw_tbl := List.mem_of_getElem? (i := 861) rfl
set_option maxRecDepth 100000 in
theorem gcw104 : gCode 104 ∈ lw_tbl := List.mem_of_getElem? (i := 870) rfl
set_option maxRecDepth 100000 in
theorem gcw105 : gCode 105 ∈ lw_tbl := List.mem_of_getElem? (i := 974) rfl
set_option maxRecDepth 100000 in
theorem gcw106 : gCode 106 ∈ lw_tbl := List.mem_of_getElem? (i := 1181) rfl
set_option maxRecDepth 100000 in
theorem gcw107 : gCode 107 ∈ lw_tbl := List.mem_of_getElem? (i := 1185) rfl
set_option maxRecDepth 100000 in
theorem gcw108 : gCode 108 ∈ lw_tbl := List.mem_of_getElem? (i := 1207) rfl
set_option maxRecDepth 100000 in
theorem gcw109 : gCode 109 ∈ lw_tbl := List.mem_of_getElem? (i := 1211) rfl
set_option maxRecDepth 100000 in
theorem gcw110 : gCode 110 ∈ lw_tbl := List.mem_of_getElem? (i := 1294) rfl
set_option maxRecDepth 100000 in
theorem gcw111 : gCode 111 ∈ lw_tbl := List.mem_of_getElem? (i := 405) rfl
set_option maxRecDepth 100000 in
theorem gcw112 : gCode 112 ∈ lw_tbl := List.mem_of_getElem? (i := 1166) rfl
set_option maxRecDepth 100000 in
theorem gcw113 : gCode 113 ∈ lw_tbl := List.mem_of_getElem? (i := 1171) rfl
set_option maxRecDepth 100000 in
theorem gcw114 : gCode 114 ∈ lw_tbl := List.mem_of_getElem? (i := 1176) rfl
set_option maxRecDepth 100000 in
theorem gcw115 : gCode 115 ∈ lw_tbl := List.mem_of_getElem? (i := 1199) rfl
set_option maxRecDepth 100000 in
theorem gcw116 : gCode 116 ∈ lw_tbl := List.mem_of_getElem? (i := 1203) rfl
set_option maxRecDepth 100000 in
theorem gcw117 : gCode 117 ∈ lw_tbl := List.mem_of_getElem? (i := 1219) rfl
set_option maxRecDepth 100000 in
theorem gcw118 : gCode 118 ∈ lw_tbl := List.mem_of_getElem? (i := 1225) rfl
set_option maxRecDepth 100000 in
theorem gcw119 : gCode 119 ∈ lw_tbl := List.mem_of_getElem? (i := 1230) rfl
set_option maxRecDepth 100000 in
theorem gcw120 : gCode 120 ∈ lw_tbl := List.mem_of_getElem? (i := 1239) rfl
set_option maxRecDepth 100000 in
theorem gcw121 : gCode 121 ∈ lw_tbl := List.mem_of_getElem? (i := 236) rfl
set_option maxRecDepth 100000 in
theorem gcw122 : gCode 122 ∈ lw_tbl := List.mem_of_getElem? (i := 1155) rfl
set_option maxRecDepth 100000 in
theorem gcw123 : gCode 123 ∈ lw_tbl := List.mem_of_getElem? (i := 1342) rfl
set_option maxRecDepth 100000 in
theorem gcw124 : gCode 124 ∈ lw_tbl := List.mem_of_getElem? (i := 456) rfl
set_option maxRecDepth 100000 in
theorem gcw125 : gCode 125 ∈ lw_tbl := List.mem_of_getElem? (i := 1329) rfl
set_option maxRecDepth 100000 in
theorem gcw126 : gCode 126 ∈ lw_tbl := List.mem_of_getElem? (i := 1351) rfl
set_option maxRecDepth 100000 in
theorem gcw127 : gCode 127 ∈ lw_tbl := List.mem_of_getElem? (i := 1356) rfl
set_option maxRecDepth 100000 in
theorem gcw128 : gCode 128 ∈ lw_tbl := List.mem_of_getElem? (i := 1360) rfl
set_option maxRecDepth 100000 in
theorem gcw129 : gCode 129 ∈ lw_tbl := List.mem_of_getElem? (i := 284) rfl
set_option maxRecDepth 100000 in
theorem gcw130 : gCode 130 ∈ lw_tbl := List.mem_of_getElem? (i := 527) rfl
set_option maxRecDepth 100000 in
theorem gcw131 : gCode 131 ∈ lw_tbl := List.mem_of_getElem? (i := 531) rfl
set_option maxRecDepth 100000 in
theorem gcw132 : gCode 132 ∈ lw_tbl := List.mem_of_getElem? (i := 565) rfl
set_option maxRecDepth 100000 in
theorem gcw133 : gCode 133 ∈ lw_tbl := List.mem_of_getElem? (i := 569) rfl
set_option maxRecDepth 100000 in
theorem gcw134 : gCode 134 ∈ lw_tbl := List.mem_of_getElem? (i := 572) rfl
set_option maxRecDepth 100000 in
theorem gcw135 : gCode 135 ∈ lw_tbl := List.mem_of_getElem? (i := 575) rfl
set_option maxRecDepth 100000 in
theorem gcw136 : gCode 136 ∈ lw_tbl := List.mem_of_getElem? (i := 579) rfl
set_option maxRecDepth 100000 in
theorem gcw137 : gCode 137 ∈ lw_tbl := List.mem_of_getElem? (i := 582) rfl
set_option maxRecDepth 100000 in
theorem gcw138 : gCode 138 ∈ lw_tbl := List.mem_of_getElem? (i := 586) rfl
set_option maxRecDepth 100000 in
theorem gcw139 : gCode 139 ∈ lw_tbl := List.mem_of_getElem? (i := 591) rfl
set_option maxRecDepth 100000 in
theorem gcw140 : gCode 140 ∈ lw_tbl := List.mem_of_getElem? (i := 645) rfl
set_option maxRecDepth 100000 in
theorem gcw141 : gCode 141 ∈ lw_tbl := List.mem_of_getElem? (i := 649) rfl
set_option maxRecDepth 100000 in
theorem gcw142 : gCode 142 ∈ lw_tbl := List.mem_of_getElem? (i := 653) rfl
set_option maxRecDepth 100000 in
theorem gcw143 : gCode 143 ∈ lw_tbl := List.mem_of_getElem? (i := 669) rfl
set_option maxRecDepth 100000 in
theorem gcw144 : gCode 144 ∈ lw_tbl := List.mem_of_getElem? (i := 709) rfl
set_option maxRecDepth 100000 in
theorem gcw145 : gCode 145 ∈ lw_tbl := List.mem_of_getElem? (i := 713) rfl
set_option maxRecDepth 100000 in
theorem gcw146 : gCode 146 ∈ lw_tbl := List.mem_of_getElem? (i := 313) rfl
set_option maxRecDepth 100000 in
theorem gcw147 : gCode 147 ∈ lw_tbl := List.mem_of_getElem? (i := 561) rfl
set_option maxRecDepth 100000 in
theorem gcw148 : gCode 148 ∈ lw_tbl := List.mem_of_getElem? (i := 657) rfl
set_option maxRecDepth 100000 in
theorem gcw149 : gCode 149 ∈ lw_tbl := List.mem_of_getElem? (i := 661) rfl
set_option maxRecDepth 100000 in
theorem gcw150 : gCode 150 ∈ lw_tbl := List.mem_of_getElem? (i := 665) rfl
set_option maxRecDepth 100000 in
theorem gcw151 : gCode 151 ∈ lw_tbl := List.mem_of_getElem? (i := 673) rfl
set_option maxRecDepth 100000 in
theorem gcw152 : gCode 152 ∈ lw_tbl := List.mem_of_getElem? (i := 677) rfl
set_option maxRecDepth 100000 in
theorem gcw153 : gCode 153 ∈ lw_tbl := List.mem_of_getElem? (i := 681) rfl
set_option maxRecDepth 100000 in
theorem gcw154 : gCode 154 ∈ lw_tbl := List.mem_of_getElem? (i := 685) rfl
set_option maxRecDepth 100000 in
theorem gcw155 : gCode 155 ∈ lw_tbl := List.mem_of_getElem? (i := 689) rfl
set_option maxRecDepth 100000 in
theorem gcw156 : gCode 156 ∈ lw_tbl := List.mem_of_getElem? (i := 693) rfl
set_option maxRecDepth 100000 in
theorem gcw157 : gCode 157 ∈ lw_tbl := List.mem_of_getElem? (i := 697) rfl
set_option maxRecDepth 100000 in
theorem gcw158 : gCode 158 ∈ lw_tbl := List.mem_of_getElem? (i := 705) rfl
set_option maxRecDepth 100000 in
theorem gcw159 : gCode 159 ∈ lw_tbl := List.mem_of_getElem? (i := 744) rfl
set_option maxRecDepth 100000 in
theorem gcw160 : gCode 160 ∈ lw_tbl := List.mem_of_getElem? (i := 1396) rfl
set_option maxRecDepth 100000 in
theorem gcw161 : gCode 161 ∈ lw_tbl := List.mem_of_getElem? (i := 1578) rfl
set_option maxRecDepth 100000 in
theorem gcw162 : gCode 162 ∈ lw_tbl := List.mem_of_getElem? (i := 1582) rfl
set_option maxRecDepth 100000 in
theorem gcw163 : gCode 163 ∈ lw_tbl := List.mem_of_getElem? (i := 1587) rfl
set_option maxRecDepth 100000 in
theorem gcw164 : gCode 164 ∈ lw_tbl := List.mem_of_getElem? (i := 1591) rfl
set_option maxRecDepth 100000 in
theorem gcw165 : gCode 165 ∈ lw_tbl := List.mem_of_getElem? (i := 1594) rfl
set_option maxRecDepth 100000 in
theorem gcw166 : gCode 166 ∈ lw_tbl := List.mem_of_getElem? (i := 1597) rfl
set_option maxRecDepth 100000 in
theorem gcw167 : gCode 167 ∈ lw_tbl := List.mem_of_getElem? (i := 1601) rfl
set_option maxRecDepth 100000 in
theorem gcw168 : gCode 168 ∈ lw_tbl := List.mem_of_getElem? (i := 1604) rfl
set_option maxRecDepth 100000 in
theorem gcw169 : gCode 169 ∈ lw_tbl := List.mem_of_getElem? (i := 1608) rfl
set_option maxRecDepth 100000 in
theorem gcw170 : gCode 170 ∈ lw_tbl := List.mem_of_getElem? (i := 1611) rfl
set_option maxRecDepth 100000 in
theorem gcw171 : gCode 171 ∈ lw_tbl := List.mem_of_getElem? (i := 1614) rfl
set_option maxRecDepth 100000 in
theorem gcw172 : gCode 172 ∈ lw_tbl := List.mem_of_getElem? (i := 1618) rfl
set_option maxRecDepth 100000 in
theorem gcw173 : gCode 173 ∈ lw_tbl := List.mem_of_getElem? (i := 1622) rfl
set_option maxRecDepth 100000 in
theorem gcw174 : gCode 174 ∈ lw_tbl := List.mem_of_getElem? (i := 1626) rfl
set_option maxRecDepth 100000 in
theorem gcw175 : gCode 175 ∈ lw_tbl := List.mem_of_getElem? (i := 1630) rfl
set_option maxRecDepth 100000 in
theorem gcw176 : gCode 176 ∈ lw_tbl := List.mem_of_getElem? (i := 1633) rfl
set_option maxRecDepth 100000 in
theorem gcw177 : gCode 177 ∈ lw_tbl := List.mem_of_getElem? (i := 1641) rfl
set_option maxRecDepth 100000 in
theorem gcw178 : gCode 178 ∈ lw_tbl := List.mem_of_getElem? (i := 1647) rfl
set_option maxRecDepth 100000 in
theorem gcw179 : gCode 179 ∈ lw_tbl := List.mem_of_getElem? (i := 1698) rfl
set_option maxRecDepth 100000 in
theorem gcw180 : gCode 180 ∈ lw_tbl := List.mem_of_getElem? (i := 1702) rfl
set_option maxRecDepth 100000 in
theorem gcw181 : gCode 181 ∈ lw_tbl := List.mem_of_getElem? (i := 1706) rfl
set_option maxRecDepth 100000 in
theorem gcw182 : gCode 182 ∈ lw_tbl := List.mem_of_getElem? (i := 1710) rfl
set_option maxRecDepth 100000 in
theorem gcw183 : gCode 183 ∈ lw_tbl := List.mem_of_getElem? (i := 1714) rfl
set_option maxRecDepth 100000 in
theorem gcw184 : gCode 184 ∈ lw_tbl := List.mem_of_getElem? (i := 1718) rfl
set_option maxRecDepth 100000 in
theorem gcw185 : gCode 185 ∈ lw_tbl := List.mem_of_getElem? (i := 1722) rfl
set_option maxRecDepth 100000 in
theorem gcw186 : gCode 186 ∈ lw_tbl := List.mem_of_getElem? (i := 1726) rfl
set_option maxRecDepth 100000 in
theorem gcw187 : gCode 187 ∈ lw_tbl := List.mem_of_getElem? (i := 1730) rfl
set_option maxRecDepth 100000 in
theorem gcw188 : gCode 188 ∈ lw_tbl := List.mem_of_getElem? (i := 1733) rfl
set_option maxRecDepth 100000 in
theorem gcw189 : gCode 189 ∈ lw_tbl := List.mem_of_getElem? (i := 1737) rfl
set_option maxRecDepth 100000 in
theorem gcw190 : gCode 190 ∈ lw_tbl := List.mem_of_getElem? (i := 1741) rfl
set_option maxRecDepth 100000 in
theorem gcw191 : gCode 191 ∈ lw_tbl := List.mem_of_getElem? (i := 1745) rfl
set_option maxRecDepth 100000 in
theorem gcw192 : gCode 192 ∈ lw_tbl := List.mem_of_getElem? (i := 1749) rfl
set_option maxRecDepth 100000 in
theorem gcw193 : gCode 193 ∈ lw_tbl := List.mem_of_getElem? (i := 1753) rfl
set_option maxRecDepth 100000 in
theorem gcw194 : gCode 194 ∈ lw_tbl := List.mem_of_getElem? (i := 1757) rfl
set_option maxRecDepth 100000 in
theorem gcw195 : gCode 195 ∈ lw_tbl := List.mem_of_getElem? (i := 1761) rfl
set_option maxRecDepth 100000 in
theorem gcw196 : gCode 196 ∈ lw_tbl := List.mem_of_getElem? (i := 1765) rfl
set_option maxRecDepth 100000 in
theorem gcw197 : gCode 197 ∈ lw_tbl := List.mem_of_getElem? (i := 1769) rfl
set_option maxRecDepth 100000 in
theorem gcw198 : gCode 198 ∈ lw_tbl := List.mem_of_getElem? (i := 1773) rfl
set_option maxRecDepth 100000 in
theorem gcw199 : gCode 199 ∈ lw_tbl := List.mem_of_getElem? (i := 1777) rfl
set_option maxRecDepth 100000 in
theorem gcw200 : gCode 200 ∈ lw_tbl := List.mem_of_getElem? (i := 1781) rfl
set_option maxRecDepth 100000 in
theorem gcw201 : gCode 201 ∈ lw_tbl := List.mem_of_getElem? (i := 1785) rfl
set_option maxRecDepth 100000 in
theorem gcw202 : gCode 202 ∈ lw_tbl := List.mem_of_getElem? (i := 1789) rfl
set_option maxRecDepth 100000 in
theorem gcw203 : gCode 203 ∈ lw_tbl := List.mem_of_getElem? (i := 1793) rfl
set_option maxRecDepth 100000 in
theorem gcw204 : gCode 204 ∈ lw_tbl := List.mem_of_getElem? (i := 1797) rfl
set_option maxRecDepth 100000 in
theorem gcw205 : gCode 205 ∈ lw_tbl := List.mem_of_getElem? (i := 1802) rfl
set_option maxRecDepth 100000 in
theorem gcw206 : gCode 206 ∈ lw_tbl := List.mem_of_getElem? (i := 1807) rfl
set_option maxRecDepth 100000 in
theorem gcw207 : gCode 207 ∈ lw_tbl := List.mem_of_getElem? (i := 1811) rfl
set_option maxRecDepth 100000 in
theorem gcw208 : gCode 208 ∈ lw_tbl := List.mem_of_getElem? (i := 1815) rfl
set_option maxRecDepth 100000 in
theorem gcw209 : gCode 209 ∈ lw_tbl := List.mem_of_getElem? (i := 1819) rfl
set_option maxRecDepth 100000 in
theorem gcw210 : gCode 210 ∈ lw_tbl := List.mem_of_getElem? (i := 1823) rfl
set_option maxRecDepth 100000 in
theorem gcw211 : gCode 211 ∈ lw_tbl := List.mem_of_getElem? (i := 1827) rfl
set_option maxRecDepth 100000 in
theorem gcw212 : gCode 212 ∈ lw_tbl := List.mem_of_getElem? (i := 1831) rfl
set_option maxRecDepth 100000 in
theorem gcw213 : gCode 213 ∈ lw_tbl := List.mem_of_getElem? (i := 1835) rfl
set_option maxRecDepth 100000 in
theorem gcw214 : gCode 214 ∈ lw_tbl := List.mem_of_getElem? (i := 1839) rfl
set_option maxRecDepth 100000 in
theorem gcw215 : gCode 215 ∈ lw_tbl := List.mem_of_getElem? (i := 1843) rfl
set_option maxRecDepth 100000 in
theorem gcw216 : gCode 216 ∈ lw_tbl := List.mem_of_getElem? (i := 1848) rfl
set_option maxRecDepth 100000 in
theorem gcw217 : gCode 217 ∈ lw_tbl := List.mem_of_getElem? (i := 1852) rfl
set_option maxRecDepth 100000 in
theorem gcw218 : gCode 218 ∈ lw_tbl := List.mem_of_getElem? (i := 1856) rfl
set_option maxRecDepth 100000 in
theorem gcw219 : gCode 219 ∈ lw_tbl := List.mem_of_getElem? (i := 1861) rfl
set_option maxRecDepth 100000 in
theorem gcw220 : gCode 220 ∈ lw_tbl := List.mem_of_getElem? (i := 1865) rfl
set_option maxRecDepth 100000 in
theorem gcw221 : gCode 221 ∈ lw_tbl := List.mem_of_getElem? (i := 1926) rfl
set_option maxRecDepth 100000 in
theorem gcw222 : gCode 222 ∈ lw_tbl := List.mem_of_getElem? (i := 1933) rfl
set_option maxRecDepth 100000 in
theorem gcw223 : gCode 223 ∈ lw_tbl := List.mem_of_getElem? (i := 1937) rfl
set_option maxRecDepth 100000 in
theorem gcw224 : gCode 224 ∈ lw_tbl := List.mem_of_getElem? (i := 1941) rfl
set_option maxRecDepth 100000 in
theorem gcw225 : gCode 225 ∈ lw_tbl := List.mem_of_getElem? (i := 1945) rfl
set_option maxRecDepth 100000 in
theorem gcw226 : gCode 226 ∈ lw_tbl := List.mem_of_getElem? (i := 1949) rfl
set_option maxRecDepth 100000 in
theorem gcw227 : gCode 227 ∈ lw_tbl := List.mem_of_getElem? (i := 1953) rfl
set_option maxRecDepth 100000 in
theorem gcw228 : gCode 228 ∈ lw_tbl := List.mem_of_getElem? (i := 1957) rfl
set_option maxRecDepth 100000 in
theorem gcw229 : gCode 229 ∈ lw_tbl := List.mem_of_getElem? (i := 1961) rfl
set_option maxRecDepth 100000 in
theorem gcw230 : gCode 230 ∈ lw_tbl := List.mem_of_getElem? (i := 1965) rfl
set_option maxRecDepth 100000 in
theorem gcw231 : gCode 231 ∈ lw_tbl := List.mem_of_getElem? (i := 1968) rfl
set_option maxRecDepth 100000 in
theorem gcw232 : gCode 232 ∈ lw_tbl := List.mem_of_getElem? (i := 1972) rfl
set_option maxRecDepth 100000 in
theorem gcw233 : gCode 233 ∈ lw_tbl := List.mem_of_getElem? (i := 1976) rfl
set_option maxRecDepth 100000 in
theorem gcw234 : gCode 234 ∈ lw_tbl := List.mem_of_getElem? (i := 1980) rfl
set_option maxRecDepth 100000 in
theorem gcw235 : gCode 235 ∈ lw_tbl := List.mem_of_getElem? (i := 1984) rfl
set_option maxRecDepth 100000 in
theorem gcw236 : gCode 236 ∈ lw_tbl := List.mem_of_getElem? (i := 1988) rfl
set_option maxRecDepth 100000 in
theorem gcw237 : gCode 237 ∈ lw_tbl := List.mem_of_getElem? (i := 1992) rfl
set_option maxRecDepth 100000 in
theorem gcw238 : gCode 238 ∈ lw_tbl := List.mem_of_getElem? (i := 1996) rfl
set_option maxRecDepth 100000 in
theorem gcw239 : gCode 239 ∈ lw_tbl := List.mem_of_getElem? (i := 2000) rfl
set_option maxRecDepth 100000 in
theorem gcw240 : gCode 240 ∈ lw_tbl := List.mem_of_getElem? (i := 2004) rfl
set_option maxRecDepth 100000 in
theorem gcw241 : gCode 241 ∈ lw_tbl := List.mem_of_getElem? (i := 2008) rfl
set_option maxRecDepth 100000 in
theorem gcw242 : gCode 242 ∈ lw_tbl := List.mem_of_getElem? (i := 2012) rfl
set_option maxRecDepth 100000 in
theorem gcw243 : gCode 243 ∈ lw_tbl := List.mem_of_getElem? (i := 2016) rfl
set_option maxRecDepth 100000 in
theorem gcw244 : gCode 244 ∈ lw_tbl := List.mem_of_getElem? (i := 2020) rfl
set_option maxRecDepth 100000 in
theorem gcw245 : gCode 245 ∈ lw_tbl := List.mem_of_getElem? (i := 2024) rfl
set_option maxRecDepth 100000 in
theorem gcw246 : gCode 246 ∈ lw_tbl := List.mem_of_getElem? (i := 2028) rfl
set_option maxRecDepth 100000 in
theorem gcw247 : gCode 247 ∈ lw_tbl := List.mem_of_getElem? (i := 2032) rfl
set_option maxRecDepth 100000 in
theorem gcw248 : gCode 248 ∈ lw_tbl := List.mem_of_getElem? (i := 2036) rfl
set_option maxRecDepth 100000 in
theorem gcw249 : gCode 249 ∈ lw_tbl := List.mem_of_getElem? (i := 2040) rfl
set_option maxRecDepth 100000 in
theorem gcw250 : gCode 250 ∈ lw_tbl := List.mem_of_getElem? (i := 2044) rfl
set_option maxRecDepth 100000 in
theorem gcw251 : gCode 251 ∈ lw_tbl := List.mem_of_getElem? (i := 2048) rfl
set_option maxRecDepth 100000 in
theorem gcw252 : gCode 252 ∈ lw_tbl := List.mem_of_getElem? (i := 2052) rfl
set_option maxRecDepth 100000 in
theorem gcw253 : gCode 253 ∈ lw_tbl := List.mem_of_getElem? (i := 2057) rfl
set_option maxRecDepth 100000 in
theorem gcw254 : gCode 254 ∈ lw_tbl := List.mem_of_getElem? (i := 2060) rfl
set_option maxRecDepth 100000 in
theorem gcw255 : gCode 255 ∈ lw_tbl := List.mem_of_getElem? (i := 2064) rfl
set_option maxRecDepth 100000 in
theorem gcw256 : gCode 256 ∈ lw_tbl := List.mem_of_getElem? (i := 2067) rfl
set_option maxRecDepth 100000 in
theorem gcw257 : gCode 257 ∈ lw_tbl := List.mem_of_getElem? (i := 2071) rfl
set_option maxRecDepth 100000 in
theorem gcw258 : gCode 258 ∈ lw_tbl := List.mem_of_getElem? (i := 2075) rfl
set_option maxRecDepth 100000 in
theorem gcw259 : gCode 259 ∈ lw_tbl := List.mem_of_getElem? (i := 2079) rfl
set_option maxRecDepth 100000 in
theorem gcw260 : gCode 260 ∈ lw_tbl := List.mem_of_getElem? (i := 2083) rfl
set_option maxRecDepth 100000 in
theorem gcw261 : gCode 261 ∈ lw_tbl := List.mem_of_getElem? (i := 2087) rfl
set_option maxRecDepth 100000 in
theorem gcw262 : gCode 262 ∈ lw_tbl := List.mem_of_getElem? (i := 2091) rfl
set_option maxRecDepth 100000 in
theorem gcw263 : gCode 263 ∈ lw_tbl := List.mem_of_getElem? (i := 2095) rfl
set_option maxRecDepth 100000 in
theorem gcw264 : gCode 264 ∈ lw_tbl := List.mem_of_getElem? (i := 2099) rfl
set_option maxRecDepth 100000 in
theorem gcw265 : gCode 265 ∈ lw_tbl := List.mem_of_getElem? (i := 948) rfl
set_option maxRecDepth 100000 in
theorem gcw266 : gCode 266 ∈ lw_tbl := List.mem_of_getElem? (i := 985) rfl
set_option maxRecDepth 100000 in
theorem gcw267 : gCode 267 ∈ lw_tbl := List.mem_of_getElem? (i := 989) rfl
set_option maxRecDepth 100000 in
theorem gcw268 : gCode 268 ∈ lw_tbl := List.mem_of_getElem? (i := 993) rfl
set_option maxRecDepth 100000 in
theorem gcw269 : gCode 269 ∈ lw_tbl := List.mem_of_getElem? (i := 1015) rfl
set_option maxRecDepth 100000 in
theorem gcw270 : gCode 270 ∈ lw_tbl := List.mem_of_getElem? (i := 1050) rfl
set_option maxRecDepth 100000 in
theorem gcw271 : gCode 271 ∈ lw_tbl := List.mem_of_getElem? (i := 1093) rfl
set_option maxRecDepth 100000 in
theorem gcw272 : gCode 272 ∈ lw_tbl := List.mem_of_getElem? (i := 1105) rfl
set_option maxRecDepth 100000 in
theorem gcw273 : gCode 273 ∈ lw_tbl := List.mem_of_getElem? (i := 1109) rfl
set_option maxRecDepth 100000 in
theorem gcw274 : gCode 274 ∈ lw_tbl := List.mem_of_getElem? (i := 1127) rfl
set_option maxRecDepth 100000 in
theorem gcw275 : gCode 275 ∈ lw_tbl := List.mem_of_getElem? (i := 1134) rfl
set_option maxRecDepth 100000 in
theorem gcw276 : gCode 276 ∈ lw_tbl := List.mem_of_getElem? (i := 1888) rfl
set_option maxRecDepth 100000 in
theorem gcw277 : gCode 277 ∈ lw_tbl := List.mem_of_getElem? (i := 1053) rfl
set_option maxRecDepth 100000 in
theorem gcw278 : gCode 278 ∈ lw_tbl := List.mem_of_getElem? (i := 1056) rfl
set_option maxRecDepth 100000 in
theorem gcw279 : gCode 279 ∈ lw_tbl := List.mem_of_getElem? (i := 732) rfl
set_option maxRecDepth 100000 in
theorem gcw280 : gCode 280 ∈ lw_tbl := List.mem_of_getElem? (i := 925) rfl
set_option maxRecDepth 100000 in
theorem gcw281 : gCode 281 ∈ lw_tbl := List.mem_of_getElem? (i := 595) rfl
set_option maxRecDepth 100000 in
theorem gcw282 : gCode 282 ∈ lw_tbl := List.mem_of_getElem? (i := 599) rfl
set_option maxRecDepth 100000 in
theorem gcw283 : gCode 283 ∈ lw_tbl := List.mem_of_getElem? (i := 605) rfl
set_option maxRecDepth 100000 in
theorem gcw284 : gCode 284 ∈ lw_tbl := List.mem_of_getElem? (i := 609) rfl
set_option maxRecDepth 100000 in
theorem gcw285 : gCode 285 ∈ lw_tbl := List.mem_of_getElem? (i := 615) rfl
set_option maxRecDepth 100000 in
theorem gcw286 : gCode 286 ∈ lw_tbl := List.mem_of_getElem? (i := 1114) rfl
set_option maxRecDepth 100000 in
theorem gcw287 : gCode 287 ∈ lw_tbl := List.mem_of_getElem? (i := 1652) rfl
set_option maxRecDepth 100000 in
theorem gcw288 : gCode 288 ∈ lw_tbl := List.mem_of_getElem? (i := 1656) rfl
set_option maxRecDepth 100000 in
theorem gcw289 : gCode 289 ∈ lw_tbl := List.mem_of_getElem? (i := 1879) rfl
set_option maxRecDepth 100000 in
theorem gcw290 : gCode 290 ∈ lw_tbl := List.mem_of_getElem? (i := 1882) rfl
set_option maxRecDepth 100000 in
theorem gcw291 : gCode 291 ∈ lw_tbl := List.mem_of_getElem? (i := 945) rfl
set_option maxRecDepth 100000 in
theorem gcw292 : gCode 292 ∈ lw_tbl := List.mem_of_getElem? (i := 982) rfl
set_option maxRecDepth 100000 in
theorem gcw293 : gCode 293 ∈ lw_tbl := List.mem_of_getElem? (i := 1047) rfl
set_option maxRecDepth 100000 in
theorem gcw294 : gCode 294 ∈ lw_tbl := List.mem_of_getElem? (i := 1090) rfl
set_option maxRecDepth 100000 in
theorem gcw295 : gCode 295 ∈ lw_tbl := List.mem_of_getElem? (i := 1124) rfl
set_option maxRecDepth 100000 in
theorem gcw296 : gCode 296 ∈ lw_tbl := List.mem_of_getElem? (i := 1131) rfl
set_option maxRecDepth 100000 in
theorem gcw297 : gCode 297 ∈ lw_tbl := List.mem_of_getElem? (i := 1874) rfl
set_option maxRecDepth 100000 in
theorem gcw298 : gCode 298 ∈ lw_tbl := List.mem_of_getElem? (i := 612) rfl
set_option maxRecDepth 100000 in
theorem gcw299 : gCode 299 ∈ lw_tbl := List.mem_of_getElem? (i := 1018) rfl
set_option maxRecDepth 100000 in
theorem gcw300 : gCode 300 ∈ lw_tbl := List.mem_of_getElem? (i := 1025) rfl
set_option maxRecDepth 100000 in
theorem gcw301 : gCode 301 ∈ lw_tbl := List.mem_of_getElem? (i := 1660) rfl
set_option maxRecDepth 100000 in
theorem gcw302 : gCode 302 ∈ lw_tbl := List.mem_of_getElem? (i := 1663) rfl
set_option maxRecDepth 100000 in
theorem gcw303 : gCode 303 ∈ lw_tbl := List.mem_of_getElem? (i := 1668) rfl
set_option maxRecDepth 100000 in
theorem gcw304 : gCode 304 ∈ lw_tbl := List.mem_of_getElem? (i := 749) rfl
set_option maxRecDepth 100000 in
theorem gcw305 : gCode 305 ∈ lw_tbl := List.mem_of_getElem? (i := 891) rfl
set_option maxRecDepth 100000 in
theorem gcw306 : gCode 306 ∈ lw_tbl := List.mem_of_getElem? (i := 1005) rfl
set_option maxRecDepth 100000 in
theorem gcw307 : gCode 307 ∈ lw_tbl := List.mem_of_getElem? (i := 1893) rfl
set_option maxRecDepth 100000 in
theorem gcw308 : gCode 308 ∈ lw_tbl := List.mem_of_getElem? (i := 1896) rfl
set_option maxRecDepth 100000 in
theorem gcw309 : gCode 309 ∈ lw_tbl := List.mem_of_getElem? (i := 1899) rfl
set_option maxRecDepth 100000 in
theorem gcw310 : gCode 310 ∈ lw_tbl := List.mem_of_getElem? (i := 996) rfl
set_option maxRecDepth 100000 in
theorem gcw311 : gCode 311 ∈ lw_tbl := List.mem_of_getElem? (i := 1001) rfl
set_option maxRecDepth 100000 in
theorem gcw312 : gCode 312 ∈ lw_tbl := List.mem_of_getElem? (i := 620) rfl
/-- an instruction of the table is what the bytes say there -/
def dok (b : ByteArray) (q : Nat × Instr) : Bool := match decode b q.1 with
  | .ok (i, n) => decide (i = q.2) && (n == jlen q.2 || (match q.2 with | .tableswitch .. => true | .lookupswitch .. => true | _ => false))
  | .error _ => false
