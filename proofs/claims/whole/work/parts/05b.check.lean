set_option maxRecDepth 100000 in
theorem az_kc_0 : (az_ckc 0 && az_mok (az_m 0)) = true := by decide +kernel
set_option maxRecDepth 100000 in
theorem az_kc_1 : (az_ckc 1 && az_mok (az_m 1)) = true := by decide +kernel
set_option maxRecDepth 100000 in
theorem az_kc_2 : (az_ckc 2 && az_mok (az_m 2)) = true := by decide +kernel
set_option maxRecDepth 100000 in
theorem az_kc_3 : (az_ckc 3 && az_mok (az_m 3)) = true := by decide +kernel
set_option maxRecDepth 100000 in
theorem az_kc_4 : (az_ckc 4 && az_mok (az_m 4)) = true := by decide +kernel
set_option maxRecDepth 100000 in
theorem az_kc_5 : (az_ckc 5 && az_mok (az_m 5)) = true := by decide +kernel
set_option maxRecDepth 100000 in
theorem az_kc_6 : (az_ckc 6 && az_mok (az_m 6)) = true := by decide +kernel
set_option maxRecDepth 100000 in
theorem az_kc_7 : (az_ckc 7 && az_mok (az_m 7)) = true := by decide +kernel
set_option maxRecDepth 100000 in
theorem az_kc_8 : (az_ckc 8 && az_mok (az_m 8)) = true := by decide +kernel
set_option maxRecDepth 100000 in
theorem az_kc_9 : (az_ckc 9 && az_mok (az_m 9)) = true := by decide +kernel
set_option maxRecDepth 100000 in
theorem az_kc_10 : (az_ckc 10 && az_mok (az_m 10)) = true := by decide +kernel
set_option maxRecDepth 100000 in
theorem az_kc_11 : (az_ckc 11 && az_mok (az_m 11)) = true := by decide +kernel
set_option maxRecDepth 100000 in
theorem az_kc_12 : (az_ckc 12 && az_mok (az_m 12)) = true := by decide +kernel
set_option maxRecDepth 100000 in
theorem az_kc_13 : (az_ckc 13 && az_mok (az_m 13)) = true := by decide +kernel
set_option maxRecDepth 100000 in
theorem az_kc_14 : (az_ckc 14 && az_mok (az_m 14)) = true := by decide +kernel
set_option maxRecDepth 100000 in
theorem az_kc_15 : (az_ckc 15 && az_mok (az_m 15)) = true := by decide +kernel
set_option maxRecDepth 100000 in
theorem az_kc_16 : (az_ckc 16 && az_mok (az_m 16)) = true := by decide +kernel
set_option maxRecDepth 100000 in
theorem az_kc_17 : (az_ckc 17 && az_mok (az_m 17)) = true := by decide +kernel
set_option maxRecDepth 100000 in
theorem az_kc_18 : (az_ckc 18 && az_mok (az_m 18)) = true := by decide +kernel
set_option maxRecDepth 100000 in
theorem az_kc_19 : (az_ckc 19 && az_mok (az_m 19)) = true := by decide +kernel
set_option maxRecDepth 100000 in
theorem az_kc_20 : (az_ckc 20 && az_mok (az_m 20)) = true := by decide +kernel
set_option maxRecDepth 100000 in
theorem az_kc_21 : (az_ckc 21 && az_mok (az_m 21)) = true := by decide +kernel
set_option maxRecDepth 100000 in
theorem az_kc_22 : (az_ckc 22 && az_mok (az_m 22)) = true := by decide +kernel
set_option maxRecDepth 100000 in
theorem az_kc_23 : (az_ckc 23 && az_mok (az_m 23)) = true := by decide +kernel
set_option maxRecDepth 100000 in
theorem az_kc_24 : (az_ckc 24 && az_mok (az_m 24)) = true := by decide +kernel
set_option maxRecDepth 100000 in
theorem az_kc_25 : (az_ckc 25 && az_mok (az_m 25)) = true := by decide +kernel
set_option maxRecDepth 100000 in
theorem az_kc_26 : (az_ckc 26 && az_mok (az_m 26)) = true := by decide +kernel
set_option maxRecDepth 100000 in
theorem az_kc_27 : (az_ckc 27 && az_mok (az_m 27)) = true := by decide +kernel
set_option maxRecDepth 100000 in
theorem az_kc_28 : (az_ckc 28 && az_mok (az_m 28)) = true := by decide +kernel
set_option maxRecDepth 100000 in
theorem az_kc_29 : (az_ckc 29 && az_mok (az_m 29)) = true := by decide +kernel
set_option maxRecDepth 100000 in
theorem az_kc_30 : (az_ckc 30 && az_mok (az_m 30)) = true := by decide +kernel
set_option maxRecDepth 100000 in
theorem az_kc_31 : (az_ckc 31 && az_mok (az_m 31)) = true := by decide +kernel
set_option maxRecDepth 100000 in
theorem az_kc_32 : (az_ckc 32 && az_mok (az_m 32)) = true := by decide +kernel
set_option maxRecDepth 100000 in
theorem az_kc_33 : (az_ckc 33 && az_mok (az_m 33)) = true := by decide +kernel
set_option maxRecDepth 100000 in
theorem az_kc_34 : (az_ckc 34 && az_mok (az_m 34)) = true := by decide +kernel
set_option maxRecDepth 100000 in
theorem az_kc_35 : (az_ckc 35 && az_mok (az_m 35)) = true := by decide +kernel
set_option maxRecDepth 100000 in
theorem az_kc_36 : (az_ckc 36 && az_mok (az_m 36)) = true := by decide +kernel
set_option maxRecDepth 100000 in
theorem az_kc_37 : (az_ckc 37 && az_mok (az_m 37)) = true := by decide +kernel
set_option maxRecDepth 100000 in
theorem az_kc_38 : (az_ckc 38 && az_mok (az_m 38)) = true := by decide +kernel
set_option maxRecDepth 100000 in
theorem az_kc_39 : (az_ckc 39 && az_mok (az_m 39)) = true := by decide +kernel
set_option maxRecDepth 100000 in
theorem az_kc_40 : (az_ckc 40 && az_mok (az_m 40)) = true := by decide +kernel
set_option maxRecDepth 100000 in
theorem az_kc_41 : (az_ckc 41 && az_mok (az_m 41)) = true := by decide +kernel
set_option maxRecDepth 100000 in
theorem az_kc_42 : (az_ckc 42 && az_mok (az_m 42)) = true := by decide +kernel
set_option maxRecDepth 100000 in
theorem az_kc_43 : (az_ckc 43 && az_mok (az_m 43)) = true := by decide +kernel
set_option maxRecDepth 100000 in
theorem az_kc_44 : (az_ckc 44 && az_mok (az_m 44)) = true := by decide +kernel
set_option maxRecDepth 100000 in
theorem az_kc_45 : (az_ckc 45 && az_mok (az_m 45)) = true := by decide +kernel
set_option maxRecDepth 100000 in
theorem az_kc_46 : (az_ckc 46 && az_mok (az_m 46)) = true := by decide +kernel
set_option maxRecDepth 100000 in
theorem az_kc_47 : (az_ckc 47 && az_mok (az_m 47)) = true := by decide +kernel
set_option maxRecDepth 100000 in
theorem az_kc_48 : (az_ckc 48 && az_mok (az_m 48)) = true := by decide +kernel
set_option maxRecDepth 100000 in
theorem az_kc_49 : (az_ckc 49 && az_mok (az_m 49)) = true := by decide +kernel
set_option maxRecDepth 100000 in
theorem az_kc_50 : (az_ckc 50 && az_mok (az_m 50)) = true := by decide +kernel
set_option maxRecDepth 100000 in
theorem az_kc_51 : (az_ckc 51 && az_mok (az_m 51)) = true := by decide +kernel
set_option maxRecDepth 100000 in
theorem az_kc_52 : (az_ckc 52 && az_mok (az_m 52)) = true := by decide +kernel
set_option maxRecDepth 100000 in
theorem az_kc_53 : (az_ckc 53 && az_mok (az_m 53)) = true := by decide +kernel
set_option maxRecDepth 100000 in
theorem az_kc_54 : (az_ckc 54 && az_mok (az_m 54)) = true := by decide +kernel
set_option maxRecDepth 100000 in
theorem az_kc_55 : (az_ckc 55 && az_mok (az_m 55)) = true := by decide +kernel
set_option maxRecDepth 100000 in
theorem az_kc_56 : (az_ckc 56 && az_mok (az_m 56)) = true := by decide +kernel
set_option maxRecDepth 100000 in
theorem az_kc_57 : (az_ckc 57 && az_mok (az_m 57)) = true := by decide +kernel
set_option maxRecDepth 100000 in
theorem az_kc_58 : (az_ckc 58 && az_mok (az_m 58)) = true := by decide +kernel
set_option maxRecDepth 100000 in
theorem az_kc_59 : (az_ckc 59 && az_mok (az_m 59)) = true := by decide +kernel
set_option maxRecDepth 100000 in
theorem az_kc_60 : (az_ckc 60 && az_mok (az_m 60)) = true := by decide +kernel
set_option maxRecDepth 100000 in
theorem az_kc_61 : (az_ckc 61 && az_mok (az_m 61)) = true := by decide +kernel
set_option maxRecDepth 100000 in
theorem az_kc_62 : (az_ckc 62 && az_mok (az_m 62)) = true := by decide +kernel
set_option maxRecDepth 100000 in
theorem az_kc_63 : (az_ckc 63 && az_mok (az_m 63)) = true := by decide +kernel
set_option maxRecDepth 100000 in
theorem az_kc_64 : (az_ckc 64 && az_mok (az_m 64)) = true := by decide +kernel
set_option maxRecDepth 100000 in
theorem az_kc_65 : (az_ckc 65 && az_mok (az_m 65)) = true := by decide +kernel
set_option maxRecDepth 100000 in
theorem az_kc_66 : (az_ckc 66 && az_mok (az_m 66)) = true := by decide +kernel
set_option maxRecDepth 100000 in
theorem az_kc_67 : (az_ckc 67 && az_mok (az_m 67)) = true := by decide +kernel
set_option maxRecDepth 100000 in
theorem az_kc_68 : (az_ckc 68 && az_mok (az_m 68)) = true := by decide +kernel
set_option maxRecDepth 100000 in
theorem az_kc_69 : (az_ckc 69 && az_mok (az_m 69)) = true := by decide +kernel
set_option maxRecDepth 100000 in
theorem az_kc_70 : (az_ckc 70 && az_mok (az_m 70)) = true := by decide +kernel
set_option maxRecDepth 100000 in
theorem az_kc_71 : (az_ckc 71 && az_mok (az_m 71)) = true := by decide +kernel
set_option maxRecDepth 100000 in
theorem az_kc_72 : (az_ckc 72 && az_mok (az_m 72)) = true := by decide +kernel
set_option maxRecDepth 100000 in
theorem az_kc_73 : (az_ckc 73 && az_mok (az_m 73)) = true := by decide +kernel
set_option maxRecDepth 100000 in
theorem az_kc_74 : (az_ckc 74 && az_mok (az_m 74)) = true := by decide +kernel
set_option maxRecDepth 100000 in
theorem az_kc_75 : (az_ckc 75 && az_mok (az_m 75)) = true := by decide +kernel
set_option maxRecDepth 100000 in
theorem az_kc_76 : (az_ckc 76 && az_mok (az_m 76)) = true := by decide +kernel
set_option maxRecDepth 100000 in
theorem az_kc_77 : (az_ckc 77 && az_mok (az_m 77)) = true := by decide +kernel
set_option maxRecDepth 100000 in
theorem az_kc_78 : (az_ckc 78 && az_mok (az_m 78)) = true := by decide +kernel
set_option maxRecDepth 100000 in
theorem az_kc_79 : (az_ckc 79 && az_mok (az_m 79)) = true := by decide +kernel
set_option maxRecDepth 100000 in
theorem az_kc_80 : (az_ckc 80 && az_mok (az_m 80)) = true := by decide +kernel
set_option maxRecDepth 100000 in
theorem az_kc_81 : (az_ckc 81 && az_mok (az_m 81)) = true := by decide +kernel
set_option maxRecDepth 100000 in
theorem az_kc_82 : (az_ckc 82 && az_mok (az_m 82)) = true := by decide +kernel
set_option maxRecDepth 100000 in
theorem az_kc_83 : (az_ckc 83 && az_mok (az_m 83)) = true := by decide +kernel
set_option maxRecDepth 100000 in
theorem az_kc_84 : (az_ckc 84 && az_mok (az_m 84)) = true := by decide +kernel
set_option maxRecDepth 100000 in
theorem az_kc_85 : (az_ckc 85 && az_mok (az_m 85)) = true := by decide +kernel
set_option maxRecDepth 100000 in
theorem az_kc_86 : (az_ckc 86 && az_mok (az_m 86)) = true := by decide +kernel
set_option maxRecDepth 100000 in
theorem az_kc_87 : (az_ckc 87 && az_mok (az_m 87)) = true := by decide +kernel
set_option maxRecDepth 100000 in
theorem az_kc_88 : (az_ckc 88 && az_mok (az_m 88)) = true := by decide +kernel
set_option maxRecDepth 100000 in
theorem az_kc_89 : (az_ckc 89 && az_mok (az_m 89)) = true := by decide +kernel
set_option maxRecDepth 100000 in
theorem az_kc_90 : (az_ckc 90 && az_mok (az_m 90)) = true := by decide +kernel
set_option maxRecDepth 100000 in
theorem az_kc_91 : (az_ckc 91 && az_mok (az_m 91)) = true := by decide +kernel
set_option maxRecDepth 100000 in
theorem az_kc_92 : (az_ckc 92 && az_mok (az_m 92)) = true := by decide +kernel
set_option maxRecDepth 100000 in
theorem az_kc_93 : (az_ckc 93 && az_mok (az_m 93)) = true := by decide +kernel
set_option maxRecDepth 100000 in
theorem az_kc_94 : (az_ckc 94 && az_mok (az_m 94)) = true := by decide +kernel
set_option maxRecDepth 100000 in
theorem az_kc_95 : (az_ckc 95 && az_mok (az_m 95)) = true := by decide +kernel
set_option maxRecDepth 100000 in
theorem az_kc_96 : (az_ckc 96 && az_mok (az_m 96)) = true := by decide +kernel
set_option maxRecDepth 100000 in
theorem az_kc_97 : (az_ckc 97 && az_mok (az_m 97)) = true := by decide +kernel
set_option maxRecDepth 100000 in
theorem az_kc_98 : (az_ckc 98 && az_mok (az_m 98)) = true := by decide +kernel
set_option maxRecDepth 100000 in
theorem az_kc_99 : (az_ckc 99 && az_mok (az_m 99)) = true := by decide +kernel
set_option maxRecDepth 100000 in
theorem az_kc_100 : (az_ckc 100 && az_mok (az_m 100)) = true := by decide +kernel
set_option maxRecDepth 100000 in
theorem az_kc_101 : (az_ckc 101 && az_mok (az_m 101)) = true := by decide +kernel
set_option maxRecDepth 100000 in
theorem az_kc_102 : (az_ckc 102 && az_mok (az_m 102)) = true := by decide +kernel
set_option maxRecDepth 100000 in
theorem az_kc_103 : (az_ckc 103 && az_mok (az_m 103)) = true := by decide +kernel
set_option maxRecDepth 100000 in
theorem az_kc_104 : (az_ckc 104 && az_mok (az_m 104)) = true := by decide +kernel
set_option maxRecDepth 100000 in
theorem az_kc_105 : (az_ckc 105 && az_mok (az_m 105)) = true := by decide +kernel
set_option maxRecDepth 100000 in
theorem az_kc_106 : (az_ckc 106 && az_mok (az_m 106)) = true := by decide +kernel
set_option maxRecDepth 100000 in
theorem az_kc_107 : (az_ckc 107 && az_mok (az_m 107)) = true := by decide +kernel
set_option maxRecDepth 100000 in
theorem az_kc_108 : (az_ckc 108 && az_mok (az_m 108)) = true := by decide +kernel
set_option maxRecDepth 100000 in
theorem az_kc_109 : (az_ckc 109 && az_mok (az_m 109)) = true := by decide +kernel
set_option maxRecDepth 100000 in
theorem az_kc_110 : (az_ckc 110 && az_mok (az_m 110)) = true := by decide +kernel
set_option maxRecDepth 100000 in
theorem az_kc_111 : (az_ckc 111 && az_mok (az_m 111)) = true := by decide +kernel
set_option maxRecDepth 100000 in
theorem az_kc_112 : (az_ckc 112 && az_mok (az_m 112)) = true := by decide +kernel
set_option maxRecDepth 100000 in
theorem az_kc_113 : (az_ckc 113 && az_mok (az_m 113)) = true := by decide +kernel
set_option maxRecDepth 100000 in
theorem az_kc_114 : (az_ckc 114 && az_mok (az_m 114)) = true := by decide +kernel
set_option maxRecDepth 100000 in
theorem az_kc_115 : (az_ckc 115 && az_mok (az_m 115)) = true := by decide +kernel
set_option maxRecDepth 100000 in
theorem az_kc_116 : (az_ckc 116 && az_mok (az_m 116)) = true := by decide +kernel
set_option maxRecDepth 100000 in
theorem az_kc_117 : (az_ckc 117 && az_mok (az_m 117)) = true := by decide +kernel
set_option maxRecDepth 100000 in
theorem az_kc_118 : (az_ckc 118 && az_mok (az_m 118)) = true := by decide +kernel
set_option maxRecDepth 100000 in
theorem az_kc_119 : (az_ckc 119 && az_mok (az_m 119)) = true := by decide +kernel
set_option maxRecDepth 100000 in
theorem az_kc_120 : (az_ckc 120 && az_mok (az_m 120)) = true := by decide +kernel
set_option maxRecDepth 100000 in
theorem az_kc_121 : (az_ckc 121 && az_mok (az_m 121)) = true := by decide +kernel
set_option maxRecDepth 100000 in
theorem az_kc_122 : (az_ckc 122 && az_mok (az_m 122)) = true := by decide +kernel
set_option maxRecDepth 100000 in
theorem az_kc_123 : (az_ckc 123 && az_mok (az_m 123)) = true := by decide +kernel
set_option maxRecDepth 100000 in
theorem az_kc_124 : (az_ckc 124 && az_mok (az_m 124)) = true := by decide +kernel
set_option maxRecDepth 100000 in
theorem az_kc_125 : (az_ckc 125 && az_mok (az_m 125)) = true := by decide +kernel
set_option maxRecDepth 100000 in
theorem az_kc_126 : (az_ckc 126 && az_mok (az_m 126)) = true := by decide +kernel
set_option maxRecDepth 100000 in
theorem az_kc_127 : (az_ckc 127 && az_mok (az_m 127)) = true := by decide +kernel
set_option maxRecDepth 100000 in
theorem az_kc_128 : (az_ckc 128 && az_mok (az_m 128)) = true := by decide +kernel
set_option maxRecDepth 100000 in
theorem az_kc_129 : (az_ckc 129 && az_mok (az_m 129)) = true := by decide +kernel
