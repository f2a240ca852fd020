/-! facts of single cells. Written by wip/gen/blocks.py's friend gen6.py -/
theorem sh0 : aShp 0 = 7 := by decide +kernel
theorem sh1 : aShp 1 = 1 := by decide +kernel
theorem sh2 : aShp 2 = 21 := by decide +kernel
theorem ln2 : aLen 2 = 10 := by decide +kernel
theorem sh3 : aShp 3 = 20 := by decide +kernel
theorem ln3 : aLen 3 = 3 := by decide +kernel
theorem sh4 : aShp 4 = 0 := by decide +kernel
theorem sh5 : aShp 5 = 0 := by decide +kernel
theorem sh6 : aShp 6 = 0 := by decide +kernel
theorem sh7 : aShp 7 = 0 := by decide +kernel
theorem sh8 : aShp 8 = 0 := by decide +kernel
theorem sh9 : aShp 9 = 0 := by decide +kernel
theorem sh10 : aShp 10 = 0 := by decide +kernel
theorem sh11 : aShp 11 = 0 := by decide +kernel
theorem sh12 : aShp 12 = 0 := by decide +kernel
theorem sh13 : aShp 13 = 0 := by decide +kernel
theorem sh14 : aShp 14 = 1 := by decide +kernel
theorem sh15 : aShp 15 = 21 := by decide +kernel
theorem ln15 : aLen 15 = 10 := by decide +kernel
theorem sh16 : aShp 16 = 20 := by decide +kernel
theorem ln16 : aLen 16 = 3 := by decide +kernel
theorem sh17 : aShp 17 = 0 := by decide +kernel
theorem sh18 : aShp 18 = 0 := by decide +kernel
theorem sh19 : aShp 19 = 0 := by decide +kernel
theorem sh20 : aShp 20 = 0 := by decide +kernel
theorem sh21 : aShp 21 = 0 := by decide +kernel
theorem sh22 : aShp 22 = 0 := by decide +kernel
theorem sh23 : aShp 23 = 0 := by decide +kernel
theorem sh24 : aShp 24 = 0 := by decide +kernel
theorem sh25 : aShp 25 = 0 := by decide +kernel
theorem sh26 : aShp 26 = 0 := by decide +kernel
theorem sh27 : aShp 27 = 1 := by decide +kernel
theorem sh28 : aShp 28 = 21 := by decide +kernel
theorem ln28 : aLen 28 = 10 := by decide +kernel
theorem sh29 : aShp 29 = 20 := by decide +kernel
theorem ln29 : aLen 29 = 3 := by decide +kernel
theorem sh30 : aShp 30 = 0 := by decide +kernel
theorem sh31 : aShp 31 = 0 := by decide +kernel
theorem sh32 : aShp 32 = 0 := by decide +kernel
theorem sh33 : aShp 33 = 0 := by decide +kernel
theorem sh34 : aShp 34 = 0 := by decide +kernel
theorem sh35 : aShp 35 = 0 := by decide +kernel
theorem sh36 : aShp 36 = 0 := by decide +kernel
theorem sh37 : aShp 37 = 0 := by decide +kernel
theorem sh38 : aShp 38 = 0 := by decide +kernel
theorem sh39 : aShp 39 = 0 := by decide +kernel
theorem sh40 : aShp 40 = 22 := by decide +kernel
theorem ln40 : aLen 40 = 15 := by decide +kernel
theorem sh41 : aShp 41 = 3 := by decide +kernel
theorem sh42 : aShp 42 = 6 := by decide +kernel
theorem sh43 : aShp 43 = 20 := by decide +kernel
theorem ln43 : aLen 43 = 96 := by decide +kernel
theorem sh44 : aShp 44 = 23 := by decide +kernel
theorem ln44 : aLen 44 = 4 := by decide +kernel
theorem sh45 : aShp 45 = 24 := by decide +kernel
theorem ln45 : aLen 45 = 5 := by decide +kernel
theorem sh46 : aShp 46 = 20 := by decide +kernel
theorem ln46 : aLen 46 = 60 := by decide +kernel
theorem sh47 : aShp 47 = 20 := by decide +kernel
theorem ln47 : aLen 47 = 10 := by decide +kernel
theorem sh48 : aShp 48 = 2 := by decide +kernel
theorem sh49 : aShp 49 = 20 := by decide +kernel
theorem ln49 : aLen 49 = 96 := by decide +kernel
theorem sh50 : aShp 50 = 20 := by decide +kernel
theorem ln50 : aLen 50 = 48 := by decide +kernel
theorem sh51 : aShp 51 = 2 := by decide +kernel
theorem sh52 : aShp 52 = 20 := by decide +kernel
theorem ln52 : aLen 52 = 96 := by decide +kernel
theorem sh53 : aShp 53 = 20 := by decide +kernel
theorem ln53 : aLen 53 = 48 := by decide +kernel
theorem sh54 : aShp 54 = 2 := by decide +kernel
theorem sh55 : aShp 55 = 20 := by decide +kernel
theorem ln55 : aLen 55 = 96 := by decide +kernel
theorem sh56 : aShp 56 = 20 := by decide +kernel
theorem ln56 : aLen 56 = 48 := by decide +kernel
theorem sh57 : aShp 57 = 2 := by decide +kernel
theorem sh58 : aShp 58 = 20 := by decide +kernel
theorem ln58 : aLen 58 = 96 := by decide +kernel
theorem sh59 : aShp 59 = 20 := by decide +kernel
theorem ln59 : aLen 59 = 48 := by decide +kernel
theorem sh60 : aShp 60 = 2 := by decide +kernel
theorem sh61 : aShp 61 = 20 := by decide +kernel
theorem ln61 : aLen 61 = 96 := by decide +kernel
theorem sh62 : aShp 62 = 20 := by decide +kernel
theorem ln62 : aLen 62 = 48 := by decide +kernel
theorem sh63 : aShp 63 = 2 := by decide +kernel
theorem sh64 : aShp 64 = 20 := by decide +kernel
theorem ln64 : aLen 64 = 96 := by decide +kernel
theorem sh65 : aShp 65 = 20 := by decide +kernel
theorem ln65 : aLen 65 = 48 := by decide +kernel
theorem sh66 : aShp 66 = 2 := by decide +kernel
theorem sh67 : aShp 67 = 20 := by decide +kernel
theorem ln67 : aLen 67 = 96 := by decide +kernel
theorem sh68 : aShp 68 = 20 := by decide +kernel
theorem ln68 : aLen 68 = 48 := by decide +kernel
theorem sh69 : aShp 69 = 2 := by decide +kernel
theorem sh70 : aShp 70 = 20 := by decide +kernel
theorem ln70 : aLen 70 = 96 := by decide +kernel
theorem sh71 : aShp 71 = 20 := by decide +kernel
theorem ln71 : aLen 71 = 48 := by decide +kernel
theorem sh72 : aShp 72 = 2 := by decide +kernel
theorem sh73 : aShp 73 = 20 := by decide +kernel
theorem ln73 : aLen 73 = 96 := by decide +kernel
theorem sh74 : aShp 74 = 20 := by decide +kernel
theorem ln74 : aLen 74 = 48 := by decide +kernel
theorem sh75 : aShp 75 = 2 := by decide +kernel
theorem sh76 : aShp 76 = 20 := by decide +kernel
theorem ln76 : aLen 76 = 96 := by decide +kernel
theorem sh77 : aShp 77 = 20 := by decide +kernel
theorem ln77 : aLen 77 = 48 := by decide +kernel
theorem sh78 : aShp 78 = 2 := by decide +kernel
theorem sh79 : aShp 79 = 20 := by decide +kernel
theorem ln79 : aLen 79 = 96 := by decide +kernel
theorem sh80 : aShp 80 = 20 := by decide +kernel
theorem ln80 : aLen 80 = 48 := by decide +kernel
theorem sh81 : aShp 81 = 2 := by decide +kernel
theorem sh82 : aShp 82 = 20 := by decide +kernel
theorem ln82 : aLen 82 = 96 := by decide +kernel
theorem sh83 : aShp 83 = 20 := by decide +kernel
theorem ln83 : aLen 83 = 48 := by decide +kernel
theorem sh84 : aShp 84 = 2 := by decide +kernel
theorem sh85 : aShp 85 = 20 := by decide +kernel
theorem ln85 : aLen 85 = 96 := by decide +kernel
theorem sh86 : aShp 86 = 20 := by decide +kernel
theorem ln86 : aLen 86 = 48 := by decide +kernel
theorem sh87 : aShp 87 = 2 := by decide +kernel
theorem sh88 : aShp 88 = 20 := by decide +kernel
theorem ln88 : aLen 88 = 96 := by decide +kernel
theorem sh89 : aShp 89 = 20 := by decide +kernel
theorem ln89 : aLen 89 = 48 := by decide +kernel
theorem sh90 : aShp 90 = 2 := by decide +kernel
theorem sh91 : aShp 91 = 20 := by decide +kernel
theorem ln91 : aLen 91 = 96 := by decide +kernel
theorem sh92 : aShp 92 = 20 := by decide +kernel
theorem ln92 : aLen 92 = 48 := by decide +kernel
theorem sh93 : aShp 93 = 4 := by decide +kernel
theorem sh94 : aShp 94 = 20 := by decide +kernel
theorem ln94 : aLen 94 = 24 := by decide +kernel
theorem sh95 : aShp 95 = 4 := by decide +kernel
theorem sh96 : aShp 96 = 20 := by decide +kernel
theorem ln96 : aLen 96 = 24 := by decide +kernel
theorem sh97 : aShp 97 = 4 := by decide +kernel
theorem sh98 : aShp 98 = 20 := by decide +kernel
theorem ln98 : aLen 98 = 24 := by decide +kernel
theorem sh99 : aShp 99 = 4 := by decide +kernel
theorem sh100 : aShp 100 = 20 := by decide +kernel
theorem ln100 : aLen 100 = 24 := by decide +kernel
theorem sh101 : aShp 101 = 5 := by decide +kernel
theorem sh102 : aShp 102 = 0 := by decide +kernel
theorem sh103 : aShp 103 = 4 := by decide +kernel
theorem sh104 : aShp 104 = 20 := by decide +kernel
theorem ln104 : aLen 104 = 24 := by decide +kernel
theorem sh105 : aShp 105 = 5 := by decide +kernel
theorem sh106 : aShp 106 = 0 := by decide +kernel
theorem sh107 : aShp 107 = 4 := by decide +kernel
theorem sh108 : aShp 108 = 20 := by decide +kernel
theorem ln108 : aLen 108 = 24 := by decide +kernel
theorem sh109 : aShp 109 = 5 := by decide +kernel
theorem sh110 : aShp 110 = 0 := by decide +kernel
theorem sh111 : aShp 111 = 4 := by decide +kernel
theorem sh112 : aShp 112 = 20 := by decide +kernel
theorem ln112 : aLen 112 = 24 := by decide +kernel
theorem sh113 : aShp 113 = 5 := by decide +kernel
theorem sh114 : aShp 114 = 0 := by decide +kernel
theorem sh115 : aShp 115 = 4 := by decide +kernel
theorem sh116 : aShp 116 = 20 := by decide +kernel
theorem ln116 : aLen 116 = 24 := by decide +kernel
theorem sh117 : aShp 117 = 5 := by decide +kernel
theorem sh118 : aShp 118 = 0 := by decide +kernel
theorem sh119 : aShp 119 = 4 := by decide +kernel
theorem sh120 : aShp 120 = 20 := by decide +kernel
theorem ln120 : aLen 120 = 24 := by decide +kernel
theorem sh121 : aShp 121 = 8 := by decide +kernel
theorem sh122 : aShp 122 = 20 := by decide +kernel
theorem ln122 : aLen 122 = 3060 := by decide +kernel
theorem sh123 : aShp 123 = 20 := by decide +kernel
theorem ln123 : aLen 123 = 3060 := by decide +kernel
theorem sh124 : aShp 124 = 20 := by decide +kernel
theorem ln124 : aLen 124 = 3060 := by decide +kernel
theorem sh125 : aShp 125 = 20 := by decide +kernel
theorem ln125 : aLen 125 = 4 := by decide +kernel
theorem sh126 : aShp 126 = 20 := by decide +kernel
theorem ln126 : aLen 126 = 4 := by decide +kernel
theorem sh127 : aShp 127 = 20 := by decide +kernel
theorem ln127 : aLen 127 = 96 := by decide +kernel
theorem sh128 : aShp 128 = 20 := by decide +kernel
theorem ln128 : aLen 128 = 5 := by decide +kernel
theorem sh129 : aShp 129 = 20 := by decide +kernel
theorem ln129 : aLen 129 = 5 := by decide +kernel
theorem sh130 : aShp 130 = 20 := by decide +kernel
theorem ln130 : aLen 130 = 5 := by decide +kernel
theorem sh131 : aShp 131 = 20 := by decide +kernel
theorem ln131 : aLen 131 = 5 := by decide +kernel
theorem sh132 : aShp 132 = 20 := by decide +kernel
theorem ln132 : aLen 132 = 120 := by decide +kernel
theorem sh133 : aShp 133 = 20 := by decide +kernel
theorem ln133 : aLen 133 = 60 := by decide +kernel
theorem sh134 : aShp 134 = 20 := by decide +kernel
theorem ln134 : aLen 134 = 96 := by decide +kernel
theorem sh135 : aShp 135 = 20 := by decide +kernel
theorem ln135 : aLen 135 = 128 := by decide +kernel
theorem sh136 : aShp 136 = 20 := by decide +kernel
theorem ln136 : aLen 136 = 100 := by decide +kernel
theorem sh137 : aShp 137 = 20 := by decide +kernel
theorem ln137 : aLen 137 = 24 := by decide +kernel
theorem sh138 : aShp 138 = 20 := by decide +kernel
theorem ln138 : aLen 138 = 60 := by decide +kernel
theorem sh139 : aShp 139 = 20 := by decide +kernel
theorem ln139 : aLen 139 = 60 := by decide +kernel
theorem rf0_0 : aRf 0 0 = 1 := by decide +kernel
theorem rf0_1 : aRf 0 1 = 14 := by decide +kernel
theorem rf0_2 : aRf 0 2 = 27 := by decide +kernel
theorem rf0_4 : aRf 0 4 = 40 := by decide +kernel
theorem rf0_5 : aRf 0 5 = 41 := by decide +kernel
theorem rf0_6 : aRf 0 6 = 44 := by decide +kernel
theorem rf0_7 : aRf 0 7 = 45 := by decide +kernel
theorem rf0_8 : aRf 0 8 = 46 := by decide +kernel
theorem rf0_10 : aRf 0 10 = 47 := by decide +kernel
theorem rf1_0 : aRf 1 0 = 2 := by decide +kernel
theorem rf1_1 : aRf 1 1 = 3 := by decide +kernel
theorem rf2_0 : aRf 2 0 = 4 := by decide +kernel
theorem rf2_1 : aRf 2 1 = 5 := by decide +kernel
theorem rf2_2 : aRf 2 2 = 6 := by decide +kernel
theorem rf2_3 : aRf 2 3 = 7 := by decide +kernel
theorem rf2_4 : aRf 2 4 = 8 := by decide +kernel
theorem rf2_5 : aRf 2 5 = 9 := by decide +kernel
theorem rf2_6 : aRf 2 6 = 10 := by decide +kernel
theorem rf2_7 : aRf 2 7 = 11 := by decide +kernel
theorem rf2_8 : aRf 2 8 = 12 := by decide +kernel
theorem rf2_9 : aRf 2 9 = 13 := by decide +kernel
theorem rf14_0 : aRf 14 0 = 15 := by decide +kernel
theorem rf14_1 : aRf 14 1 = 16 := by decide +kernel
theorem rf15_0 : aRf 15 0 = 17 := by decide +kernel
theorem rf15_1 : aRf 15 1 = 18 := by decide +kernel
theorem rf15_2 : aRf 15 2 = 19 := by decide +kernel
theorem rf15_3 : aRf 15 3 = 20 := by decide +kernel
theorem rf15_4 : aRf 15 4 = 21 := by decide +kernel
theorem rf15_5 : aRf 15 5 = 22 := by decide +kernel
theorem rf15_6 : aRf 15 6 = 23 := by decide +kernel
theorem rf15_7 : aRf 15 7 = 24 := by decide +kernel
theorem rf15_8 : aRf 15 8 = 25 := by decide +kernel
theorem rf15_9 : aRf 15 9 = 26 := by decide +kernel
theorem rf27_0 : aRf 27 0 = 28 := by decide +kernel
theorem rf27_1 : aRf 27 1 = 29 := by decide +kernel
theorem rf28_0 : aRf 28 0 = 30 := by decide +kernel
theorem rf28_1 : aRf 28 1 = 31 := by decide +kernel
theorem rf28_2 : aRf 28 2 = 32 := by decide +kernel
theorem rf28_3 : aRf 28 3 = 33 := by decide +kernel
theorem rf28_4 : aRf 28 4 = 34 := by decide +kernel
theorem rf28_5 : aRf 28 5 = 35 := by decide +kernel
theorem rf28_6 : aRf 28 6 = 36 := by decide +kernel
theorem rf28_7 : aRf 28 7 = 37 := by decide +kernel
theorem rf28_8 : aRf 28 8 = 38 := by decide +kernel
theorem rf28_9 : aRf 28 9 = 39 := by decide +kernel
theorem rf40_0 : aRf 40 0 = 48 := by decide +kernel
theorem rf40_1 : aRf 40 1 = 51 := by decide +kernel
theorem rf40_2 : aRf 40 2 = 54 := by decide +kernel
theorem rf40_3 : aRf 40 3 = 57 := by decide +kernel
theorem rf40_4 : aRf 40 4 = 60 := by decide +kernel
theorem rf40_5 : aRf 40 5 = 63 := by decide +kernel
theorem rf40_6 : aRf 40 6 = 66 := by decide +kernel
theorem rf40_7 : aRf 40 7 = 69 := by decide +kernel
theorem rf40_8 : aRf 40 8 = 72 := by decide +kernel
theorem rf40_9 : aRf 40 9 = 75 := by decide +kernel
theorem rf40_10 : aRf 40 10 = 78 := by decide +kernel
theorem rf40_11 : aRf 40 11 = 81 := by decide +kernel
theorem rf40_12 : aRf 40 12 = 84 := by decide +kernel
theorem rf40_13 : aRf 40 13 = 87 := by decide +kernel
theorem rf40_14 : aRf 40 14 = 90 := by decide +kernel
theorem rf41_0 : aRf 41 0 = 42 := by decide +kernel
theorem rf42_0 : aRf 42 0 = 43 := by decide +kernel
theorem rf44_0 : aRf 44 0 = 93 := by decide +kernel
theorem rf44_1 : aRf 44 1 = 95 := by decide +kernel
theorem rf44_2 : aRf 44 2 = 97 := by decide +kernel
theorem rf44_3 : aRf 44 3 = 99 := by decide +kernel
theorem rf45_0 : aRf 45 0 = 101 := by decide +kernel
theorem rf45_1 : aRf 45 1 = 105 := by decide +kernel
theorem rf45_2 : aRf 45 2 = 109 := by decide +kernel
theorem rf45_3 : aRf 45 3 = 113 := by decide +kernel
theorem rf45_4 : aRf 45 4 = 117 := by decide +kernel
theorem rf48_0 : aRf 48 0 = 49 := by decide +kernel
theorem rf48_1 : aRf 48 1 = 50 := by decide +kernel
theorem rf51_0 : aRf 51 0 = 52 := by decide +kernel
theorem rf51_1 : aRf 51 1 = 53 := by decide +kernel
theorem rf54_0 : aRf 54 0 = 55 := by decide +kernel
theorem rf54_1 : aRf 54 1 = 56 := by decide +kernel
theorem rf57_0 : aRf 57 0 = 58 := by decide +kernel
theorem rf57_1 : aRf 57 1 = 59 := by decide +kernel
theorem rf60_0 : aRf 60 0 = 61 := by decide +kernel
theorem rf60_1 : aRf 60 1 = 62 := by decide +kernel
theorem rf63_0 : aRf 63 0 = 64 := by decide +kernel
theorem rf63_1 : aRf 63 1 = 65 := by decide +kernel
theorem rf66_0 : aRf 66 0 = 67 := by decide +kernel
theorem rf66_1 : aRf 66 1 = 68 := by decide +kernel
theorem rf69_0 : aRf 69 0 = 70 := by decide +kernel
theorem rf69_1 : aRf 69 1 = 71 := by decide +kernel
theorem rf72_0 : aRf 72 0 = 73 := by decide +kernel
theorem rf72_1 : aRf 72 1 = 74 := by decide +kernel
theorem rf75_0 : aRf 75 0 = 76 := by decide +kernel
theorem rf75_1 : aRf 75 1 = 77 := by decide +kernel
theorem rf78_0 : aRf 78 0 = 79 := by decide +kernel
theorem rf78_1 : aRf 78 1 = 80 := by decide +kernel
theorem rf81_0 : aRf 81 0 = 82 := by decide +kernel
theorem rf81_1 : aRf 81 1 = 83 := by decide +kernel
theorem rf84_0 : aRf 84 0 = 85 := by decide +kernel
theorem rf84_1 : aRf 84 1 = 86 := by decide +kernel
theorem rf87_0 : aRf 87 0 = 88 := by decide +kernel
theorem rf87_1 : aRf 87 1 = 89 := by decide +kernel
theorem rf90_0 : aRf 90 0 = 91 := by decide +kernel
theorem rf90_1 : aRf 90 1 = 92 := by decide +kernel
theorem rf93_0 : aRf 93 0 = 94 := by decide +kernel
theorem rf95_0 : aRf 95 0 = 96 := by decide +kernel
theorem rf97_0 : aRf 97 0 = 98 := by decide +kernel
theorem rf99_0 : aRf 99 0 = 100 := by decide +kernel
theorem rf101_0 : aRf 101 0 = 102 := by decide +kernel
theorem rf101_1 : aRf 101 1 = 103 := by decide +kernel
theorem rf103_0 : aRf 103 0 = 104 := by decide +kernel
theorem rf105_0 : aRf 105 0 = 106 := by decide +kernel
theorem rf105_1 : aRf 105 1 = 107 := by decide +kernel
theorem rf107_0 : aRf 107 0 = 108 := by decide +kernel
theorem rf109_0 : aRf 109 0 = 110 := by decide +kernel
theorem rf109_1 : aRf 109 1 = 111 := by decide +kernel
theorem rf111_0 : aRf 111 0 = 112 := by decide +kernel
theorem rf113_0 : aRf 113 0 = 114 := by decide +kernel
theorem rf113_1 : aRf 113 1 = 115 := by decide +kernel
theorem rf115_0 : aRf 115 0 = 116 := by decide +kernel
theorem rf117_0 : aRf 117 0 = 118 := by decide +kernel
theorem rf117_1 : aRf 117 1 = 119 := by decide +kernel
theorem rf119_0 : aRf 119 0 = 120 := by decide +kernel
theorem rf121_0 : aRf 121 0 = 122 := by decide +kernel
theorem rf121_1 : aRf 121 1 = 123 := by decide +kernel
theorem rf121_2 : aRf 121 2 = 124 := by decide +kernel
theorem rf121_4 : aRf 121 4 = 125 := by decide +kernel
theorem rf121_5 : aRf 121 5 = 126 := by decide +kernel
theorem rf121_6 : aRf 121 6 = 127 := by decide +kernel
theorem rf121_7 : aRf 121 7 = 128 := by decide +kernel
theorem rf121_8 : aRf 121 8 = 129 := by decide +kernel
theorem rf121_9 : aRf 121 9 = 130 := by decide +kernel
theorem rf121_10 : aRf 121 10 = 131 := by decide +kernel
theorem rf121_11 : aRf 121 11 = 132 := by decide +kernel
theorem rf121_12 : aRf 121 12 = 133 := by decide +kernel
theorem rf121_13 : aRf 121 13 = 134 := by decide +kernel
theorem rf121_25 : aRf 121 25 = 135 := by decide +kernel
theorem rf121_26 : aRf 121 26 = 136 := by decide +kernel
theorem rf121_27 : aRf 121 27 = 137 := by decide +kernel
theorem rf121_28 : aRf 121 28 = 138 := by decide +kernel
theorem rf121_30 : aRf 121 30 = 139 := by decide +kernel
