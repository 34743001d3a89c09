/-! beyond a method's bytes there is nothing -/
set_option maxRecDepth 100000 in
theorem so_0 (j : Nat) : (sm_ins 0 (j + sm_sz 0)).1 = 99 := rfl
set_option maxRecDepth 100000 in
theorem so_1 (j : Nat) : (sm_ins 1 (j + sm_sz 1)).1 = 99 := rfl
set_option maxRecDepth 100000 in
theorem so_2 (j : Nat) : (sm_ins 2 (j + sm_sz 2)).1 = 99 := rfl
set_option maxRecDepth 100000 in
theorem so_3 (j : Nat) : (sm_ins 3 (j + sm_sz 3)).1 = 99 := rfl
set_option maxRecDepth 100000 in
theorem so_4 (j : Nat) : (sm_ins 4 (j + sm_sz 4)).1 = 99 := rfl
set_option maxRecDepth 100000 in
theorem so_5 (j : Nat) : (sm_ins 5 (j + sm_sz 5)).1 = 99 := rfl
set_option maxRecDepth 100000 in
theorem so_6 (j : Nat) : (sm_ins 6 (j + sm_sz 6)).1 = 99 := rfl
set_option maxRecDepth 100000 in
theorem so_7 (j : Nat) : (sm_ins 7 (j + sm_sz 7)).1 = 99 := rfl
set_option maxRecDepth 100000 in
theorem so_8 (j : Nat) : (sm_ins 8 (j + sm_sz 8)).1 = 99 := rfl
set_option maxRecDepth 100000 in
theorem so_9 (j : Nat) : (sm_ins 9 (j + sm_sz 9)).1 = 99 := rfl
set_option maxRecDepth 100000 in
theorem so_10 (j : Nat) : (sm_ins 10 (j + sm_sz 10)).1 = 99 := rfl
set_option maxRecDepth 100000 in
theorem so_11 (j : Nat) : (sm_ins 11 (j + sm_sz 11)).1 = 99 := rfl
set_option maxRecDepth 100000 in
theorem so_12 (j : Nat) : (sm_ins 12 (j + sm_sz 12)).1 = 99 := rfl
set_option maxRecDepth 100000 in
theorem so_13 (j : Nat) : (sm_ins 13 (j + sm_sz 13)).1 = 99 := rfl
set_option maxRecDepth 100000 in
theorem so_14 (j : Nat) : (sm_ins 14 (j + sm_sz 14)).1 = 99 := rfl
set_option maxRecDepth 100000 in
theorem so_15 (j : Nat) : (sm_ins 15 (j + sm_sz 15)).1 = 99 := rfl
set_option maxRecDepth 100000 in
theorem so_16 (j : Nat) : (sm_ins 16 (j + sm_sz 16)).1 = 99 := rfl
set_option maxRecDepth 100000 in
theorem so_17 (j : Nat) : (sm_ins 17 (j + sm_sz 17)).1 = 99 := rfl
set_option maxRecDepth 100000 in
theorem so_18 (j : Nat) : (sm_ins 18 (j + sm_sz 18)).1 = 99 := rfl
set_option maxRecDepth 100000 in
theorem so_19 (j : Nat) : (sm_ins 19 (j + sm_sz 19)).1 = 99 := rfl
set_option maxRecDepth 100000 in
theorem so_20 (j : Nat) : (sm_ins 20 (j + sm_sz 20)).1 = 99 := rfl
set_option maxRecDepth 100000 in
theorem so_21 (j : Nat) : (sm_ins 21 (j + sm_sz 21)).1 = 99 := rfl
set_option maxRecDepth 100000 in
theorem so_22 (j : Nat) : (sm_ins 22 (j + sm_sz 22)).1 = 99 := rfl
set_option maxRecDepth 100000 in
theorem so_23 (j : Nat) : (sm_ins 23 (j + sm_sz 23)).1 = 99 := rfl
set_option maxRecDepth 100000 in
theorem so_24 (j : Nat) : (sm_ins 24 (j + sm_sz 24)).1 = 99 := rfl
set_option maxRecDepth 100000 in
theorem so_25 (j : Nat) : (sm_ins 25 (j + sm_sz 25)).1 = 99 := rfl
set_option maxRecDepth 100000 in
theorem so_26 (j : Nat) : (sm_ins 26 (j + sm_sz 26)).1 = 99 := rfl
set_option maxRecDepth 100000 in
theorem so_27 (j : Nat) : (sm_ins 27 (j + sm_sz 27)).1 = 99 := rfl
set_option maxRecDepth 100000 in
theorem so_28 (j : Nat) : (sm_ins 28 (j + sm_sz 28)).1 = 99 := rfl
set_option maxRecDepth 100000 in
theorem so_29 (j : Nat) : (sm_ins 29 (j + sm_sz 29)).1 = 99 := rfl
set_option maxRecDepth 100000 in
theorem so_30 (j : Nat) : (sm_ins 30 (j + sm_sz 30)).1 = 99 := rfl
set_option maxRecDepth 100000 in
theorem so_31 (j : Nat) : (sm_ins 31 (j + sm_sz 31)).1 = 99 := rfl
set_option maxRecDepth 100000 in
theorem so_32 (j : Nat) : (sm_ins 32 (j + sm_sz 32)).1 = 99 := rfl
set_option maxRecDepth 100000 in
theorem so_33 (j : Nat) : (sm_ins 33 (j + sm_sz 33)).1 = 99 := rfl
set_option maxRecDepth 100000 in
theorem so_34 (j : Nat) : (sm_ins 34 (j + sm_sz 34)).1 = 99 := rfl
set_option maxRecDepth 100000 in
theorem so_35 (j : Nat) : (sm_ins 35 (j + sm_sz 35)).1 = 99 := rfl
set_option maxRecDepth 100000 in
theorem so_36 (j : Nat) : (sm_ins 36 (j + sm_sz 36)).1 = 99 := rfl
set_option maxRecDepth 100000 in
theorem so_37 (j : Nat) : (sm_ins 37 (j + sm_sz 37)).1 = 99 := rfl
set_option maxRecDepth 100000 in
theorem so_38 (j : Nat) : (sm_ins 38 (j + sm_sz 38)).1 = 99 := rfl
set_option maxRecDepth 100000 in
theorem so_39 (j : Nat) : (sm_ins 39 (j + sm_sz 39)).1 = 99 := rfl
set_option maxRecDepth 100000 in
theorem so_40 (j : Nat) : (sm_ins 40 (j + sm_sz 40)).1 = 99 := rfl
set_option maxRecDepth 100000 in
theorem so_41 (j : Nat) : (sm_ins 41 (j + sm_sz 41)).1 = 99 := rfl
set_option maxRecDepth 100000 in
theorem so_42 (j : Nat) : (sm_ins 42 (j + sm_sz 42)).1 = 99 := rfl
set_option maxRecDepth 100000 in
theorem so_43 (j : Nat) : (sm_ins 43 (j + sm_sz 43)).1 = 99 := rfl
set_option maxRecDepth 100000 in
theorem so_44 (j : Nat) : (sm_ins 44 (j + sm_sz 44)).1 = 99 := rfl
set_option maxRecDepth 100000 in
theorem so_45 (j : Nat) : (sm_ins 45 (j + sm_sz 45)).1 = 99 := rfl
set_option maxRecDepth 100000 in
theorem so_46 (j : Nat) : (sm_ins 46 (j + sm_sz 46)).1 = 99 := rfl
set_option maxRecDepth 100000 in
theorem so_47 (j : Nat) : (sm_ins 47 (j + sm_sz 47)).1 = 99 := rfl
set_option maxRecDepth 100000 in
theorem so_48 (j : Nat) : (sm_ins 48 (j + sm_sz 48)).1 = 99 := rfl
set_option maxRecDepth 100000 in
theorem so_49 (j : Nat) : (sm_ins 49 (j + sm_sz 49)).1 = 99 := rfl
set_option maxRecDepth 100000 in
theorem so_50 (j : Nat) : (sm_ins 50 (j + sm_sz 50)).1 = 99 := rfl
set_option maxRecDepth 100000 in
theorem so_51 (j : Nat) : (sm_ins 51 (j + sm_sz 51)).1 = 99 := rfl
set_option maxRecDepth 100000 in
theorem so_52 (j : Nat) : (sm_ins 52 (j + sm_sz 52)).1 = 99 := rfl
set_option maxRecDepth 100000 in
theorem so_53 (j : Nat) : (sm_ins 53 (j + sm_sz 53)).1 = 99 := rfl
set_option maxRecDepth 100000 in
theorem so_54 (j : Nat) : (sm_ins 54 (j + sm_sz 54)).1 = 99 := rfl
set_option maxRecDepth 100000 in
theorem so_55 (j : Nat) : (sm_ins 55 (j + sm_sz 55)).1 = 99 := rfl
set_option maxRecDepth 100000 in
theorem so_56 (j : Nat) : (sm_ins 56 (j + sm_sz 56)).1 = 99 := rfl
set_option maxRecDepth 100000 in
theorem so_57 (j : Nat) : (sm_ins 57 (j + sm_sz 57)).1 = 99 := rfl
set_option maxRecDepth 100000 in
theorem so_58 (j : Nat) : (sm_ins 58 (j + sm_sz 58)).1 = 99 := rfl
set_option maxRecDepth 100000 in
theorem so_59 (j : Nat) : (sm_ins 59 (j + sm_sz 59)).1 = 99 := rfl
set_option maxRecDepth 100000 in
theorem so_60 (j : Nat) : (sm_ins 60 (j + sm_sz 60)).1 = 99 := rfl
set_option maxRecDepth 100000 in
theorem so_61 (j : Nat) : (sm_ins 61 (j + sm_sz 61)).1 = 99 := rfl
set_option maxRecDepth 100000 in
theorem so_62 (j : Nat) : (sm_ins 62 (j + sm_sz 62)).1 = 99 := rfl
set_option maxRecDepth 100000 in
theorem so_63 (j : Nat) : (sm_ins 63 (j + sm_sz 63)).1 = 99 := rfl
set_option maxRecDepth 100000 in
theorem so_64 (j : Nat) : (sm_ins 64 (j + sm_sz 64)).1 = 99 := rfl
set_option maxRecDepth 100000 in
theorem so_65 (j : Nat) : (sm_ins 65 (j + sm_sz 65)).1 = 99 := rfl
set_option maxRecDepth 100000 in
theorem so_66 (j : Nat) : (sm_ins 66 (j + sm_sz 66)).1 = 99 := rfl
set_option maxRecDepth 100000 in
theorem so_67 (j : Nat) : (sm_ins 67 (j + sm_sz 67)).1 = 99 := rfl
set_option maxRecDepth 100000 in
theorem so_68 (j : Nat) : (sm_ins 68 (j + sm_sz 68)).1 = 99 := rfl
set_option maxRecDepth 100000 in
theorem so_69 (j : Nat) : (sm_ins 69 (j + sm_sz 69)).1 = 99 := rfl
set_option maxRecDepth 100000 in
theorem so_70 (j : Nat) : (sm_ins 70 (j + sm_sz 70)).1 = 99 := rfl
set_option maxRecDepth 100000 in
theorem so_71 (j : Nat) : (sm_ins 71 (j + sm_sz 71)).1 = 99 := rfl
set_option maxRecDepth 100000 in
theorem so_72 (j : Nat) : (sm_ins 72 (j + sm_sz 72)).1 = 99 := rfl
set_option maxRecDepth 100000 in
theorem so_73 (j : Nat) : (sm_ins 73 (j + sm_sz 73)).1 = 99 := rfl
set_option maxRecDepth 100000 in
theorem so_74 (j : Nat) : (sm_ins 74 (j + sm_sz 74)).1 = 99 := rfl
set_option maxRecDepth 100000 in
theorem so_75 (j : Nat) : (sm_ins 75 (j + sm_sz 75)).1 = 99 := rfl
set_option maxRecDepth 100000 in
theorem so_76 (j : Nat) : (sm_ins 76 (j + sm_sz 76)).1 = 99 := rfl
set_option maxRecDepth 100000 in
theorem so_77 (j : Nat) : (sm_ins 77 (j + sm_sz 77)).1 = 99 := rfl
set_option maxRecDepth 100000 in
theorem so_78 (j : Nat) : (sm_ins 78 (j + sm_sz 78)).1 = 99 := rfl
set_option maxRecDepth 100000 in
theorem so_79 (j : Nat) : (sm_ins 79 (j + sm_sz 79)).1 = 99 := rfl
set_option maxRecDepth 100000 in
theorem so_80 (j : Nat) : (sm_ins 80 (j + sm_sz 80)).1 = 99 := rfl
set_option maxRecDepth 100000 in
theorem so_81 (j : Nat) : (sm_ins 81 (j + sm_sz 81)).1 = 99 := rfl
set_option maxRecDepth 100000 in
theorem so_82 (j : Nat) : (sm_ins 82 (j + sm_sz 82)).1 = 99 := rfl
set_option maxRecDepth 100000 in
theorem so_83 (j : Nat) : (sm_ins 83 (j + sm_sz 83)).1 = 99 := rfl
set_option maxRecDepth 100000 in
theorem so_84 (j : Nat) : (sm_ins 84 (j + sm_sz 84)).1 = 99 := rfl
set_option maxRecDepth 100000 in
theorem so_85 (j : Nat) : (sm_ins 85 (j + sm_sz 85)).1 = 99 := rfl
set_option maxRecDepth 100000 in
theorem so_86 (j : Nat) : (sm_ins 86 (j + sm_sz 86)).1 = 99 := rfl
set_option maxRecDepth 100000 in
theorem so_87 (j : Nat) : (sm_ins 87 (j + sm_sz 87)).1 = 99 := rfl
set_option maxRecDepth 100000 in
theorem so_88 (j : Nat) : (sm_ins 88 (j + sm_sz 88)).1 = 99 := rfl
set_option maxRecDepth 100000 in
theorem so_89 (j : Nat) : (sm_ins 89 (j + sm_sz 89)).1 = 99 := rfl
set_option maxRecDepth 100000 in
theorem so_90 (j : Nat) : (sm_ins 90 (j + sm_sz 90)).1 = 99 := rfl
set_option maxRecDepth 100000 in
theorem so_91 (j : Nat) : (sm_ins 91 (j + sm_sz 91)).1 = 99 := rfl
set_option maxRecDepth 100000 in
theorem so_92 (j : Nat) : (sm_ins 92 (j + sm_sz 92)).1 = 99 := rfl
set_option maxRecDepth 100000 in
theorem so_93 (j : Nat) : (sm_ins 93 (j + sm_sz 93)).1 = 99 := rfl
set_option maxRecDepth 100000 in
theorem so_94 (j : Nat) : (sm_ins 94 (j + sm_sz 94)).1 = 99 := rfl
set_option maxRecDepth 100000 in
theorem so_95 (j : Nat) : (sm_ins 95 (j + sm_sz 95)).1 = 99 := rfl
set_option maxRecDepth 100000 in
theorem so_96 (j : Nat) : (sm_ins 96 (j + sm_sz 96)).1 = 99 := rfl
set_option maxRecDepth 100000 in
theorem so_97 (j : Nat) : (sm_ins 97 (j + sm_sz 97)).1 = 99 := rfl
set_option maxRecDepth 100000 in
theorem so_98 (j : Nat) : (sm_ins 98 (j + sm_sz 98)).1 = 99 := rfl
set_option maxRecDepth 100000 in
theorem so_99 (j : Nat) : (sm_ins 99 (j + sm_sz 99)).1 = 99 := rfl
set_option maxRecDepth 100000 in
theorem so_100 (j : Nat) : (sm_ins 100 (j + sm_sz 100)).1 = 99 := rfl
set_option maxRecDepth 100000 in
theorem so_101 (j : Nat) : (sm_ins 101 (j + sm_sz 101)).1 = 99 := rfl
set_option maxRecDepth 100000 in
theorem so_102 (j : Nat) : (sm_ins 102 (j + sm_sz 102)).1 = 99 := rfl
set_option maxRecDepth 100000 in
theorem so_103 (j : Nat) : (sm_ins 103 (j + sm_sz 103)).1 = 99 := rfl
set_option maxRecDepth 100000 in
theorem so_104 (j : Nat) : (sm_ins 104 (j + sm_sz 104)).1 = 99 := rfl
set_option maxRecDepth 100000 in
theorem so_105 (j : Nat) : (sm_ins 105 (j + sm_sz 105)).1 = 99 := rfl
set_option maxRecDepth 100000 in
theorem so_106 (j : Nat) : (sm_ins 106 (j + sm_sz 106)).1 = 99 := rfl
set_option maxRecDepth 100000 in
theorem so_107 (j : Nat) : (sm_ins 107 (j + sm_sz 107)).1 = 99 := rfl
set_option maxRecDepth 100000 in
theorem so_108 (j : Nat) : (sm_ins 108 (j + sm_sz 108)).1 = 99 := rfl
set_option maxRecDepth 100000 in
theorem so_109 (j : Nat) : (sm_ins 109 (j + sm_sz 109)).1 = 99 := rfl
set_option maxRecDepth 100000 in
theorem so_110 (j : Nat) : (sm_ins 110 (j + sm_sz 110)).1 = 99 := rfl
set_option maxRecDepth 100000 in
theorem so_111 (j : Nat) : (sm_ins 111 (j + sm_sz 111)).1 = 99 := rfl
set_option maxRecDepth 100000 in
theorem so_112 (j : Nat) : (sm_ins 112 (j + sm_sz 112)).1 = 99 := rfl
set_option maxRecDepth 100000 in
theorem so_113 (j : Nat) : (sm_ins 113 (j + sm_sz 113)).1 = 99 := rfl
set_option maxRecDepth 100000 in
theorem so_114 (j : Nat) : (sm_ins 114 (j + sm_sz 114)).1 = 99 := rfl
set_option maxRecDepth 100000 in
theorem so_115 (j : Nat) : (sm_ins 115 (j + sm_sz 115)).1 = 99 := rfl
set_option maxRecDepth 100000 in
theorem so_116 (j : Nat) : (sm_ins 116 (j + sm_sz 116)).1 = 99 := rfl
set_option maxRecDepth 100000 in
theorem so_117 (j : Nat) : (sm_ins 117 (j + sm_sz 117)).1 = 99 := rfl
set_option maxRecDepth 100000 in
theorem so_118 (j : Nat) : (sm_ins 118 (j + sm_sz 118)).1 = 99 := rfl
set_option maxRecDepth 100000 in
theorem so_119 (j : Nat) : (sm_ins 119 (j + sm_sz 119)).1 = 99 := rfl
set_option maxRecDepth 100000 in
theorem so_120 (j : Nat) : (sm_ins 120 (j + sm_sz 120)).1 = 99 := rfl
set_option maxRecDepth 100000 in
theorem so_121 (j : Nat) : (sm_ins 121 (j + sm_sz 121)).1 = 99 := rfl
set_option maxRecDepth 100000 in
theorem so_122 (j : Nat) : (sm_ins 122 (j + sm_sz 122)).1 = 99 := rfl
set_option maxRecDepth 100000 in
theorem so_123 (j : Nat) : (sm_ins 123 (j + sm_sz 123)).1 = 99 := rfl
set_option maxRecDepth 100000 in
theorem so_124 (j : Nat) : (sm_ins 124 (j + sm_sz 124)).1 = 99 := rfl
set_option maxRecDepth 100000 in
theorem so_125 (j : Nat) : (sm_ins 125 (j + sm_sz 125)).1 = 99 := rfl
set_option maxRecDepth 100000 in
theorem so_126 (j : Nat) : (sm_ins 126 (j + sm_sz 126)).1 = 99 := rfl
set_option maxRecDepth 100000 in
theorem so_127 (j : Nat) : (sm_ins 127 (j + sm_sz 127)).1 = 99 := rfl
set_option maxRecDepth 100000 in
theorem so_128 (j : Nat) : (sm_ins 128 (j + sm_sz 128)).1 = 99 := rfl
set_option maxRecDepth 100000 in
theorem so_129 (j : Nat) : (sm_ins 129 (j + sm_sz 129)).1 = 99 := rfl
set_option maxRecDepth 100000 in
theorem so_130 (j : Nat) : (sm_ins 130 (j + sm_sz 130)).1 = 99 := rfl
set_option maxRecDepth 100000 in
theorem so_131 (j : Nat) : (sm_ins 131 (j + sm_sz 131)).1 = 99 := rfl
set_option maxRecDepth 100000 in
theorem so_132 (j : Nat) : (sm_ins 132 (j + sm_sz 132)).1 = 99 := rfl
set_option maxRecDepth 100000 in
theorem so_133 (j : Nat) : (sm_ins 133 (j + sm_sz 133)).1 = 99 := rfl
set_option maxRecDepth 100000 in
theorem so_134 (j : Nat) : (sm_ins 134 (j + sm_sz 134)).1 = 99 := rfl
set_option maxRecDepth 100000 in
theorem so_135 (j : Nat) : (sm_ins 135 (j + sm_sz 135)).1 = 99 := rfl
set_option maxRecDepth 100000 in
theorem so_136 (j : Nat) : (sm_ins 136 (j + sm_sz 136)).1 = 99 := rfl
set_option maxRecDepth 100000 in
theorem so_137 (j : Nat) : (sm_ins 137 (j + sm_sz 137)).1 = 99 := rfl
set_option maxRecDepth 100000 in
theorem so_138 (j : Nat) : (sm_ins 138 (j + sm_sz 138)).1 = 99 := rfl
set_option maxRecDepth 100000 in
theorem so_139 (j : Nat) : (sm_ins 139 (j + sm_sz 139)).1 = 99 := rfl
set_option maxRecDepth 100000 in
theorem so_140 (j : Nat) : (sm_ins 140 (j + sm_sz 140)).1 = 99 := rfl
set_option maxRecDepth 100000 in
theorem so_141 (j : Nat) : (sm_ins 141 (j + sm_sz 141)).1 = 99 := rfl
set_option maxRecDepth 100000 in
theorem so_142 (j : Nat) : (sm_ins 142 (j + sm_sz 142)).1 = 99 := rfl
set_option maxRecDepth 100000 in
theorem so_143 (j : Nat) : (sm_ins 143 (j + sm_sz 143)).1 = 99 := rfl
set_option maxRecDepth 100000 in
theorem so_144 (j : Nat) : (sm_ins 144 (j + sm_sz 144)).1 = 99 := rfl
set_option maxRecDepth 100000 in
theorem so_145 (j : Nat) : (sm_ins 145 (j + sm_sz 145)).1 = 99 := rfl
set_option maxRecDepth 100000 in
theorem so_146 (j : Nat) : (sm_ins 146 (j + sm_sz 146)).1 = 99 := rfl
set_option maxRecDepth 100000 in
theorem so_147 (j : Nat) : (sm_ins 147 (j + sm_sz 147)).1 = 99 := rfl
set_option maxRecDepth 100000 in
theorem so_148 (j : Nat) : (sm_ins 148 (j + sm_sz 148)).1 = 99 := rfl
set_option maxRecDepth 100000 in
theorem so_149 (j : Nat) : (sm_ins 149 (j + sm_sz 149)).1 = 99 := rfl
set_option maxRecDepth 100000 in
theorem so_150 (j : Nat) : (sm_ins 150 (j + sm_sz 150)).1 = 99 := rfl
set_option maxRecDepth 100000 in
theorem so_151 (j : Nat) : (sm_ins 151 (j + sm_sz 151)).1 = 99 := rfl
set_option maxRecDepth 100000 in
theorem so_152 (j : Nat) : (sm_ins 152 (j + sm_sz 152)).1 = 99 := rfl
set_option maxRecDepth 100000 in
theorem so_153 (j : Nat) : (sm_ins 153 (j + sm_sz 153)).1 = 99 := rfl
set_option maxRecDepth 100000 in
theorem so_154 (j : Nat) : (sm_ins 154 (j + sm_sz 154)).1 = 99 := rfl
set_option maxRecDepth 100000 in
theorem so_155 (j : Nat) : (sm_ins 155 (j + sm_sz 155)).1 = 99 := rfl
set_option maxRecDepth 100000 in
theorem so_156 (j : Nat) : (sm_ins 156 (j + sm_sz 156)).1 = 99 := rfl
set_option maxRecDepth 100000 in
theorem so_157 (j : Nat) : (sm_ins 157 (j + sm_sz 157)).1 = 99 := rfl
set_option maxRecDepth 100000 in
theorem so_158 (j : Nat) : (sm_ins 158 (j + sm_sz 158)).1 = 99 := rfl
set_option maxRecDepth 100000 in
theorem so_159 (j : Nat) : (sm_ins 159 (j + sm_sz 159)).1 = 99 := rfl
set_option maxRecDepth 100000 in
theorem so_160 (j : Nat) : (sm_ins 160 (j + sm_sz 160)).1 = 99 := rfl
set_option maxRecDepth 100000 in
theorem so_161 (j : Nat) : (sm_ins 161 (j + sm_sz 161)).1 = 99 := rfl
set_option maxRecDepth 100000 in
theorem so_162 (j : Nat) : (sm_ins 162 (j + sm_sz 162)).1 = 99 := rfl
set_option maxRecDepth 100000 in
theorem so_163 (j : Nat) : (sm_ins 163 (j + sm_sz 163)).1 = 99 := rfl
set_option maxRecDepth 100000 in
theorem so_164 (j : Nat) : (sm_ins 164 (j + sm_sz 164)).1 = 99 := rfl
set_option maxRecDepth 100000 in
theorem so_165 (j : Nat) : (sm_ins 165 (j + sm_sz 165)).1 = 99 := rfl
set_option maxRecDepth 100000 in
theorem so_166 (j : Nat) : (sm_ins 166 (j + sm_sz 166)).1 = 99 := rfl
set_option maxRecDepth 100000 in
theorem so_167 (j : Nat) : (sm_ins 167 (j + sm_sz 167)).1 = 99 := rfl
set_option maxRecDepth 100000 in
theorem so_168 (j : Nat) : (sm_ins 168 (j + sm_sz 168)).1 = 99 := rfl
set_option maxRecDepth 100000 in
theorem so_169 (j : Nat) : (sm_ins 169 (j + sm_sz 169)).1 = 99 := rfl
set_option maxRecDepth 100000 in
theorem so_170 (j : Nat) : (sm_ins 170 (j + sm_sz 170)).1 = 99 := rfl
set_option maxRecDepth 100000 in
theorem so_171 (j : Nat) : (sm_ins 171 (j + sm_sz 171)).1 = 99 := rfl
set_option maxRecDepth 100000 in
theorem so_172 (j : Nat) : (sm_ins 172 (j + sm_sz 172)).1 = 99 := rfl
set_option maxRecDepth 100000 in
theorem so_173 (j : Nat) : (sm_ins 173 (j + sm_sz 173)).1 = 99 := rfl
set_option maxRecDepth 100000 in
theorem so_174 (j : Nat) : (sm_ins 174 (j + sm_sz 174)).1 = 99 := rfl
set_option maxRecDepth 100000 in
theorem so_175 (j : Nat) : (sm_ins 175 (j + sm_sz 175)).1 = 99 := rfl
set_option maxRecDepth 100000 in
theorem so_176 (j : Nat) : (sm_ins 176 (j + sm_sz 176)).1 = 99 := rfl
set_option maxRecDepth 100000 in
theorem so_177 (j : Nat) : (sm_ins 177 (j + sm_sz 177)).1 = 99 := rfl
set_option maxRecDepth 100000 in
theorem so_178 (j : Nat) : (sm_ins 178 (j + sm_sz 178)).1 = 99 := rfl
set_option maxRecDepth 100000 in
theorem so_179 (j : Nat) : (sm_ins 179 (j + sm_sz 179)).1 = 99 := rfl
set_option maxRecDepth 100000 in
theorem so_180 (j : Nat) : (sm_ins 180 (j + sm_sz 180)).1 = 99 := rfl
set_option maxRecDepth 100000 in
theorem so_181 (j : Nat) : (sm_ins 181 (j + sm_sz 181)).1 = 99 := rfl
set_option maxRecDepth 100000 in
theorem so_182 (j : Nat) : (sm_ins 182 (j + sm_sz 182)).1 = 99 := rfl
set_option maxRecDepth 100000 in
theorem so_183 (j : Nat) : (sm_ins 183 (j + sm_sz 183)).1 = 99 := rfl
set_option maxRecDepth 100000 in
theorem so_184 (j : Nat) : (sm_ins 184 (j + sm_sz 184)).1 = 99 := rfl
set_option maxRecDepth 100000 in
theorem so_185 (j : Nat) : (sm_ins 185 (j + sm_sz 185)).1 = 99 := rfl
set_option maxRecDepth 100000 in
theorem so_186 (j : Nat) : (sm_ins 186 (j + sm_sz 186)).1 = 99 := rfl
set_option maxRecDepth 100000 in
theorem so_187 (j : Nat) : (sm_ins 187 (j + sm_sz 187)).1 = 99 := rfl
set_option maxRecDepth 100000 in
theorem so_188 (j : Nat) : (sm_ins 188 (j + sm_sz 188)).1 = 99 := rfl
set_option maxRecDepth 100000 in
theorem so_189 (j : Nat) : (sm_ins 189 (j + sm_sz 189)).1 = 99 := rfl
set_option maxRecDepth 100000 in
theorem so_190 (j : Nat) : (sm_ins 190 (j + sm_sz 190)).1 = 99 := rfl
set_option maxRecDepth 100000 in
theorem so_191 (j : Nat) : (sm_ins 191 (j + sm_sz 191)).1 = 99 := rfl
set_option maxRecDepth 100000 in
theorem so_192 (j : Nat) : (sm_ins 192 (j + sm_sz 192)).1 = 99 := rfl
set_option maxRecDepth 100000 in
theorem so_193 (j : Nat) : (sm_ins 193 (j + sm_sz 193)).1 = 99 := rfl
set_option maxRecDepth 100000 in
theorem so_194 (j : Nat) : (sm_ins 194 (j + sm_sz 194)).1 = 99 := rfl
set_option maxRecDepth 100000 in
theorem so_195 (j : Nat) : (sm_ins 195 (j + sm_sz 195)).1 = 99 := rfl
set_option maxRecDepth 100000 in
theorem so_196 (j : Nat) : (sm_ins 196 (j + sm_sz 196)).1 = 99 := rfl
set_option maxRecDepth 100000 in
theorem so_197 (j : Nat) : (sm_ins 197 (j + sm_sz 197)).1 = 99 := rfl
set_option maxRecDepth 100000 in
theorem so_198 (j : Nat) : (sm_ins 198 (j + sm_sz 198)).1 = 99 := rfl
set_option maxRecDepth 100000 in
theorem so_199 (j : Nat) : (sm_ins 199 (j + sm_sz 199)).1 = 99 := rfl
set_option maxRecDepth 100000 in
theorem so_200 (j : Nat) : (sm_ins 200 (j + sm_sz 200)).1 = 99 := rfl
set_option maxRecDepth 100000 in
theorem so_201 (j : Nat) : (sm_ins 201 (j + sm_sz 201)).1 = 99 := rfl
set_option maxRecDepth 100000 in
theorem so_202 (j : Nat) : (sm_ins 202 (j + sm_sz 202)).1 = 99 := rfl
set_option maxRecDepth 100000 in
theorem so_203 (j : Nat) : (sm_ins 203 (j + sm_sz 203)).1 = 99 := rfl
set_option maxRecDepth 100000 in
theorem so_204 (j : Nat) : (sm_ins 204 (j + sm_sz 204)).1 = 99 := rfl
set_option maxRecDepth 100000 in
theorem so_205 (j : Nat) : (sm_ins 205 (j + sm_sz 205)).1 = 99 := rfl
set_option maxRecDepth 100000 in
theorem so_206 (j : Nat) : (sm_ins 206 (j + sm_sz 206)).1 = 99 := rfl
set_option maxRecDepth 100000 in
theorem so_207 (j : Nat) : (sm_ins 207 (j + sm_sz 207)).1 = 99 := rfl
set_option maxRecDepth 100000 in
theorem so_208 (j : Nat) : (sm_ins 208 (j + sm_sz 208)).1 = 99 := rfl
set_option maxRecDepth 100000 in
theorem so_209 (j : Nat) : (sm_ins 209 (j + sm_sz 209)).1 = 99 := rfl
set_option maxRecDepth 100000 in
theorem so_210 (j : Nat) : (sm_ins 210 (j + sm_sz 210)).1 = 99 := rfl
set_option maxRecDepth 100000 in
theorem so_211 (j : Nat) : (sm_ins 211 (j + sm_sz 211)).1 = 99 := rfl
set_option maxRecDepth 100000 in
theorem so_212 (j : Nat) : (sm_ins 212 (j + sm_sz 212)).1 = 99 := rfl
set_option maxRecDepth 100000 in
theorem so_213 (j : Nat) : (sm_ins 213 (j + sm_sz 213)).1 = 99 := rfl
set_option maxRecDepth 100000 in
theorem so_214 (j : Nat) : (sm_ins 214 (j + sm_sz 214)).1 = 99 := rfl
set_option maxRecDepth 100000 in
theorem so_215 (j : Nat) : (sm_ins 215 (j + sm_sz 215)).1 = 99 := rfl
set_option maxRecDepth 100000 in
theorem so_216 (j : Nat) : (sm_ins 216 (j + sm_sz 216)).1 = 99 := rfl
set_option maxRecDepth 100000 in
theorem so_217 (j : Nat) : (sm_ins 217 (j + sm_sz 217)).1 = 99 := rfl
set_option maxRecDepth 100000 in
theorem so_218 (j : Nat) : (sm_ins 218 (j + sm_sz 218)).1 = 99 := rfl
set_option maxRecDepth 100000 in
theorem so_219 (j : Nat) : (sm_ins 219 (j + sm_sz 219)).1 = 99 := rfl
set_option maxRecDepth 100000 in
theorem so_220 (j : Nat) : (sm_ins 220 (j + sm_sz 220)).1 = 99 := rfl
set_option maxRecDepth 100000 in
theorem so_221 (j : Nat) : (sm_ins 221 (j + sm_sz 221)).1 = 99 := rfl
set_option maxRecDepth 100000 in
theorem so_222 (j : Nat) : (sm_ins 222 (j + sm_sz 222)).1 = 99 := rfl
set_option maxRecDepth 100000 in
theorem so_223 (j : Nat) : (sm_ins 223 (j + sm_sz 223)).1 = 99 := rfl
set_option maxRecDepth 100000 in
theorem so_224 (j : Nat) : (sm_ins 224 (j + sm_sz 224)).1 = 99 := rfl
set_option maxRecDepth 100000 in
theorem so_225 (j : Nat) : (sm_ins 225 (j + sm_sz 225)).1 = 99 := rfl
set_option maxRecDepth 100000 in
theorem so_226 (j : Nat) : (sm_ins 226 (j + sm_sz 226)).1 = 99 := rfl
set_option maxRecDepth 100000 in
theorem so_227 (j : Nat) : (sm_ins 227 (j + sm_sz 227)).1 = 99 := rfl
set_option maxRecDepth 100000 in
theorem so_228 (j : Nat) : (sm_ins 228 (j + sm_sz 228)).1 = 99 := rfl
set_option maxRecDepth 100000 in
theorem so_229 (j : Nat) : (sm_ins 229 (j + sm_sz 229)).1 = 99 := rfl
set_option maxRecDepth 100000 in
theorem so_230 (j : Nat) : (sm_ins 230 (j + sm_sz 230)).1 = 99 := rfl
set_option maxRecDepth 100000 in
theorem so_231 (j : Nat) : (sm_ins 231 (j + sm_sz 231)).1 = 99 := rfl
set_option maxRecDepth 100000 in
theorem so_232 (j : Nat) : (sm_ins 232 (j + sm_sz 232)).1 = 99 := rfl
set_option maxRecDepth 100000 in
theorem so_233 (j : Nat) : (sm_ins 233 (j + sm_sz 233)).1 = 99 := rfl
set_option maxRecDepth 100000 in
theorem so_234 (j : Nat) : (sm_ins 234 (j + sm_sz 234)).1 = 99 := rfl
set_option maxRecDepth 100000 in
theorem so_235 (j : Nat) : (sm_ins 235 (j + sm_sz 235)).1 = 99 := rfl
set_option maxRecDepth 100000 in
theorem so_236 (j : Nat) : (sm_ins 236 (j + sm_sz 236)).1 = 99 := rfl
set_option maxRecDepth 100000 in
theorem so_237 (j : Nat) : (sm_ins 237 (j + sm_sz 237)).1 = 99 := rfl
set_option maxRecDepth 100000 in
theorem so_238 (j : Nat) : (sm_ins 238 (j + sm_sz 238)).1 = 99 := rfl
set_option maxRecDepth 100000 in
theorem so_239 (j : Nat) : (sm_ins 239 (j + sm_sz 239)).1 = 99 := rfl
set_option maxRecDepth 100000 in
theorem so_240 (j : Nat) : (sm_ins 240 (j + sm_sz 240)).1 = 99 := rfl
set_option maxRecDepth 100000 in
theorem so_241 (j : Nat) : (sm_ins 241 (j + sm_sz 241)).1 = 99 := rfl
set_option maxRecDepth 100000 in
theorem so_242 (j : Nat) : (sm_ins 242 (j + sm_sz 242)).1 = 99 := rfl
set_option maxRecDepth 100000 in
theorem so_243 (j : Nat) : (sm_ins 243 (j + sm_sz 243)).1 = 99 := rfl
set_option maxRecDepth 100000 in
theorem so_244 (j : Nat) : (sm_ins 244 (j + sm_sz 244)).1 = 99 := rfl
set_option maxRecDepth 100000 in
theorem so_245 (j : Nat) : (sm_ins 245 (j + sm_sz 245)).1 = 99 := rfl
set_option maxRecDepth 100000 in
theorem so_246 (j : Nat) : (sm_ins 246 (j + sm_sz 246)).1 = 99 := rfl
set_option maxRecDepth 100000 in
theorem so_247 (j : Nat) : (sm_ins 247 (j + sm_sz 247)).1 = 99 := rfl
set_option maxRecDepth 100000 in
theorem so_248 (j : Nat) : (sm_ins 248 (j + sm_sz 248)).1 = 99 := rfl
set_option maxRecDepth 100000 in
theorem so_249 (j : Nat) : (sm_ins 249 (j + sm_sz 249)).1 = 99 := rfl
set_option maxRecDepth 100000 in
theorem so_250 (j : Nat) : (sm_ins 250 (j + sm_sz 250)).1 = 99 := rfl
set_option maxRecDepth 100000 in
theorem so_251 (j : Nat) : (sm_ins 251 (j + sm_sz 251)).1 = 99 := rfl
set_option maxRecDepth 100000 in
theorem so_252 (j : Nat) : (sm_ins 252 (j + sm_sz 252)).1 = 99 := rfl
set_option maxRecDepth 100000 in
theorem so_253 (j : Nat) : (sm_ins 253 (j + sm_sz 253)).1 = 99 := rfl
set_option maxRecDepth 100000 in
theorem so_254 (j : Nat) : (sm_ins 254 (j + sm_sz 254)).1 = 99 := rfl
set_option maxRecDepth 100000 in
theorem so_255 (j : Nat) : (sm_ins 255 (j + sm_sz 255)).1 = 99 := rfl
set_option maxRecDepth 100000 in
theorem so_256 (j : Nat) : (sm_ins 256 (j + sm_sz 256)).1 = 99 := rfl
set_option maxRecDepth 100000 in
theorem so_257 (j : Nat) : (sm_ins 257 (j + sm_sz 257)).1 = 99 := rfl
set_option maxRecDepth 100000 in
theorem so_258 (j : Nat) : (sm_ins 258 (j + sm_sz 258)).1 = 99 := rfl
set_option maxRecDepth 100000 in
theorem so_259 (j : Nat) : (sm_ins 259 (j + sm_sz 259)).1 = 99 := rfl
set_option maxRecDepth 100000 in
theorem so_260 (j : Nat) : (sm_ins 260 (j + sm_sz 260)).1 = 99 := rfl
set_option maxRecDepth 100000 in
theorem so_261 (j : Nat) : (sm_ins 261 (j + sm_sz 261)).1 = 99 := rfl
set_option maxRecDepth 100000 in
theorem so_262 (j : Nat) : (sm_ins 262 (j + sm_sz 262)).1 = 99 := rfl
set_option maxRecDepth 100000 in
theorem so_263 (j : Nat) : (sm_ins 263 (j + sm_sz 263)).1 = 99 := rfl
set_option maxRecDepth 100000 in
theorem so_264 (j : Nat) : (sm_ins 264 (j + sm_sz 264)).1 = 99 := rfl
set_option maxRecDepth 100000 in
theorem so_265 (j : Nat) : (sm_ins 265 (j + sm_sz 265)).1 = 99 := rfl
set_option maxRecDepth 100000 in
theorem so_266 (j : Nat) : (sm_ins 266 (j + sm_sz 266)).1 = 99 := rfl
set_option maxRecDepth 100000 in
theorem so_267 (j : Nat) : (sm_ins 267 (j + sm_sz 267)).1 = 99 := rfl
set_option maxRecDepth 100000 in
theorem so_268 (j : Nat) : (sm_ins 268 (j + sm_sz 268)).1 = 99 := rfl
set_option maxRecDepth 100000 in
theorem so_269 (j : Nat) : (sm_ins 269 (j + sm_sz 269)).1 = 99 := rfl
set_option maxRecDepth 100000 in
theorem so_270 (j : Nat) : (sm_ins 270 (j + sm_sz 270)).1 = 99 := rfl
set_option maxRecDepth 100000 in
theorem so_271 (j : Nat) : (sm_ins 271 (j + sm_sz 271)).1 = 99 := rfl
set_option maxRecDepth 100000 in
theorem so_272 (j : Nat) : (sm_ins 272 (j + sm_sz 272)).1 = 99 := rfl
set_option maxRecDepth 100000 in
theorem so_273 (j : Nat) : (sm_ins 273 (j + sm_sz 273)).1 = 99 := rfl
set_option maxRecDepth 100000 in
theorem so_274 (j : Nat) : (sm_ins 274 (j + sm_sz 274)).1 = 99 := rfl
set_option maxRecDepth 100000 in
theorem so_275 (j : Nat) : (sm_ins 275 (j + sm_sz 275)).1 = 99 := rfl
theorem sol_0 : ∀ k ∈ [0, 1, 2, 3, 4, 5, 6, 7, 8, 9, 10, 11], ∀ j, (sm_ins k (j + sm_sz k)).1 = 99 := List.forall_mem_cons.mpr ⟨so_0, List.forall_mem_cons.mpr ⟨so_1, List.forall_mem_cons.mpr ⟨so_2, List.forall_mem_cons.mpr ⟨so_3, List.forall_mem_cons.mpr ⟨so_4, List.forall_mem_cons.mpr ⟨so_5, List.forall_mem_cons.mpr ⟨so_6, List.forall_mem_cons.mpr ⟨so_7, List.forall_mem_cons.mpr ⟨so_8, List.forall_mem_cons.mpr ⟨so_9, List.forall_mem_cons.mpr ⟨so_10, List.forall_mem_cons.mpr ⟨so_11, fun _ h => absurd h List.not_mem_nil⟩⟩⟩⟩⟩⟩⟩⟩⟩⟩⟩⟩
theorem sol_1 : ∀ k ∈ [12, 13, 14, 15, 16, 17, 18, 19, 20, 21, 22, 23], ∀ j, (sm_ins k (j + sm_sz k)).1 = 99 := List.forall_mem_cons.mpr ⟨so_12, List.forall_mem_cons.mpr ⟨so_13, List.forall_mem_cons.mpr ⟨so_14, List.forall_mem_cons.mpr ⟨so_15, List.forall_mem_cons.mpr ⟨so_16, List.forall_mem_cons.mpr ⟨so_17, List.forall_mem_cons.mpr ⟨so_18, List.forall_mem_cons.mpr ⟨so_19, List.forall_mem_cons.mpr ⟨so_20, List.forall_mem_cons.mpr ⟨so_21, List.forall_mem_cons.mpr ⟨so_22, List.forall_mem_cons.mpr ⟨so_23, fun _ h => absurd h List.not_mem_nil⟩⟩⟩⟩⟩⟩⟩⟩⟩⟩⟩⟩
theorem sol_2 : ∀ k ∈ [24, 25, 26, 27, 28, 29, 30, 31, 32, 33, 34, 35], ∀ j, (sm_ins k (j + sm_sz k)).1 = 99 := List.forall_mem_cons.mpr ⟨so_24, List.forall_mem_cons.mpr ⟨so_25, List.forall_mem_cons.mpr ⟨so_26, List.forall_mem_cons.mpr ⟨so_27, List.forall_mem_cons.mpr ⟨so_28, List.forall_mem_cons.mpr ⟨so_29, List.forall_mem_cons.mpr ⟨so_30, List.forall_mem_cons.mpr ⟨so_31, List.forall_mem_cons.mpr ⟨so_32, List.forall_mem_cons.mpr ⟨so_33, List.forall_mem_cons.mpr ⟨so_34, List.forall_mem_cons.mpr ⟨so_35, fun _ h => absurd h List.not_mem_nil⟩⟩⟩⟩⟩⟩⟩⟩⟩⟩⟩⟩
theorem sol_3 : ∀ k ∈ [36, 37, 38, 39, 40, 41, 42, 43, 44, 45, 46, 47], ∀ j, (sm_ins k (j + sm_sz k)).1 = 99 := List.forall_mem_cons.mpr ⟨so_36, List.forall_mem_cons.mpr ⟨so_37, List.forall_mem_cons.mpr ⟨so_38, List.forall_mem_cons.mpr ⟨so_39, List.forall_mem_cons.mpr ⟨so_40, List.forall_mem_cons.mpr ⟨so_41, List.forall_mem_cons.mpr ⟨so_42, List.forall_mem_cons.mpr ⟨so_43, List.forall_mem_cons.mpr ⟨so_44, List.forall_mem_cons.mpr ⟨so_45, List.forall_mem_cons.mpr ⟨so_46, List.forall_mem_cons.mpr ⟨so_47, fun _ h => absurd h List.not_mem_nil⟩⟩⟩⟩⟩⟩⟩⟩⟩⟩⟩⟩
theorem sol_4 : ∀ k ∈ [48, 49, 50, 51, 52, 53, 54, 55, 56, 57, 58, 59], ∀ j, (sm_ins k (j + sm_sz k)).1 = 99 := List.forall_mem_cons.mpr ⟨so_48, List.forall_mem_cons.mpr ⟨so_49, List.forall_mem_cons.mpr ⟨so_50, List.forall_mem_cons.mpr ⟨so_51, List.forall_mem_cons.mpr ⟨so_52, List.forall_mem_cons.mpr ⟨so_53, List.forall_mem_cons.mpr ⟨so_54, List.forall_mem_cons.mpr ⟨so_55, List.forall_mem_cons.mpr ⟨so_56, List.forall_mem_cons.mpr ⟨so_57, List.forall_mem_cons.mpr ⟨so_58, List.forall_mem_cons.mpr ⟨so_59, fun _ h => absurd h List.not_mem_nil⟩⟩⟩⟩⟩⟩⟩⟩⟩⟩⟩⟩
theorem sol_5 : ∀ k ∈ [60, 61, 62, 63, 64, 65, 66, 67, 68, 69, 70, 71], ∀ j, (sm_ins k (j + sm_sz k)).1 = 99 := List.forall_mem_cons.mpr ⟨so_60, List.forall_mem_cons.mpr ⟨so_61, List.forall_mem_cons.mpr ⟨so_62, List.forall_mem_cons.mpr ⟨so_63, List.forall_mem_cons.mpr ⟨so_64, List.forall_mem_cons.mpr ⟨so_65, List.forall_mem_cons.mpr ⟨so_66, List.forall_mem_cons.mpr ⟨so_67, List.forall_mem_cons.mpr ⟨so_68, List.forall_mem_cons.mpr ⟨so_69, List.forall_mem_cons.mpr ⟨so_70, List.forall_mem_cons.mpr ⟨so_71, fun _ h => absurd h List.not_mem_nil⟩⟩⟩⟩⟩⟩⟩⟩⟩⟩⟩⟩
theorem sol_6 : ∀ k ∈ [72, 73, 74, 75, 76, 77, 78, 79, 80, 81, 82, 83], ∀ j, (sm_ins k (j + sm_sz k)).1 = 99 := List.forall_mem_cons.mpr ⟨so_72, List.forall_mem_cons.mpr ⟨so_73, List.forall_mem_cons.mpr ⟨so_74, List.forall_mem_cons.mpr ⟨so_75, List.forall_mem_cons.mpr ⟨so_76, List.forall_mem_cons.mpr ⟨so_77, List.forall_mem_cons.mpr ⟨so_78, List.forall_mem_cons.mpr ⟨so_79, List.forall_mem_cons.mpr ⟨so_80, List.forall_mem_cons.mpr ⟨so_81, List.forall_mem_cons.mpr ⟨so_82, List.forall_mem_cons.mpr ⟨so_83, fun _ h => absurd h List.not_mem_nil⟩⟩⟩⟩⟩⟩⟩⟩⟩⟩⟩⟩
theorem sol_7 : ∀ k ∈ [84, 85, 86, 87, 88, 89, 90, 91, 92, 93, 94, 95], ∀ j, (sm_ins k (j + sm_sz k)).1 = 99 := List.forall_mem_cons.mpr ⟨so_84, List.forall_mem_cons.mpr ⟨so_85, List.forall_mem_cons.mpr ⟨so_86, List.forall_mem_cons.mpr ⟨so_87, List.forall_mem_cons.mpr ⟨so_88, List.forall_mem_cons.mpr ⟨so_89, List.forall_mem_cons.mpr ⟨so_90, List.forall_mem_cons.mpr ⟨so_91, List.forall_mem_cons.mpr ⟨so_92, List.forall_mem_cons.mpr ⟨so_93, List.forall_mem_cons.mpr ⟨so_94, List.forall_mem_cons.mpr ⟨so_95, fun _ h => absurd h List.not_mem_nil⟩⟩⟩⟩⟩⟩⟩⟩⟩⟩⟩⟩
theorem sol_8 : ∀ k ∈ [96, 97, 98, 99, 100, 101, 102, 103, 104, 105, 106, 107], ∀ j, (sm_ins k (j + sm_sz k)).1 = 99 := List.forall_mem_cons.mpr ⟨so_96, List.forall_mem_cons.mpr ⟨so_97, List.forall_mem_cons.mpr ⟨so_98, List.forall_mem_cons.mpr ⟨so_99, List.forall_mem_cons.mpr ⟨so_100, List.forall_mem_cons.mpr ⟨so_101, List.forall_mem_cons.mpr ⟨so_102, List.forall_mem_cons.mpr ⟨so_103, List.forall_mem_cons.mpr ⟨so_104, List.forall_mem_cons.mpr ⟨so_105, List.forall_mem_cons.mpr ⟨so_106, List.forall_mem_cons.mpr ⟨so_107, fun _ h => absurd h List.not_mem_nil⟩⟩⟩⟩⟩⟩⟩⟩⟩⟩⟩⟩
theorem sol_9 : ∀ k ∈ [108, 109, 110, 111, 112, 113, 114, 115, 116, 117, 118, 119], ∀ j, (sm_ins k (j + sm_sz k)).1 = 99 := List.forall_mem_cons.mpr ⟨so_108, List.forall_mem_cons.mpr ⟨so_109, List.forall_mem_cons.mpr ⟨so_110, List.forall_mem_cons.mpr ⟨so_111, List.forall_mem_cons.mpr ⟨so_112, List.forall_mem_cons.mpr ⟨so_113, List.forall_mem_cons.mpr ⟨so_114, List.forall_mem_cons.mpr ⟨so_115, List.forall_mem_cons.mpr ⟨so_116, List.forall_mem_cons.mpr ⟨so_117, List.forall_mem_cons.mpr ⟨so_118, List.forall_mem_cons.mpr ⟨so_119, fun _ h => absurd h List.not_mem_nil⟩⟩⟩⟩⟩⟩⟩⟩⟩⟩⟩⟩
theorem sol_10 : ∀ k ∈ [120, 121, 122, 123, 124, 125, 126, 127, 128, 129, 130, 131], ∀ j, (sm_ins k (j + sm_sz k)).1 = 99 := List.forall_mem_cons.mpr ⟨so_120, List.forall_mem_cons.mpr ⟨so_121, List.forall_mem_cons.mpr ⟨so_122, List.forall_mem_cons.mpr ⟨so_123, List.forall_mem_cons.mpr ⟨so_124, List.forall_mem_cons.mpr ⟨so_125, List.forall_mem_cons.mpr ⟨so_126, List.forall_mem_cons.mpr ⟨so_127, List.forall_mem_cons.mpr ⟨so_128, List.forall_mem_cons.mpr ⟨so_129, List.forall_mem_cons.mpr ⟨so_130, List.forall_mem_cons.mpr ⟨so_131, fun _ h => absurd h List.not_mem_nil⟩⟩⟩⟩⟩⟩⟩⟩⟩⟩⟩⟩
theorem sol_11 : ∀ k ∈ [132, 133, 134, 135, 136, 137, 138, 139, 140, 141, 142, 143], ∀ j, (sm_ins k (j + sm_sz k)).1 = 99 := List.forall_mem_cons.mpr ⟨so_132, List.forall_mem_cons.mpr ⟨so_133, List.forall_mem_cons.mpr ⟨so_134, List.forall_mem_cons.mpr ⟨so_135, List.forall_mem_cons.mpr ⟨so_136, List.forall_mem_cons.mpr ⟨so_137, List.forall_mem_cons.mpr ⟨so_138, List.forall_mem_cons.mpr ⟨so_139, List.forall_mem_cons.mpr ⟨so_140, List.forall_mem_cons.mpr ⟨so_141, List.forall_mem_cons.mpr ⟨so_142, List.forall_mem_cons.mpr ⟨so_143, fun _ h => absurd h List.not_mem_nil⟩⟩⟩⟩⟩⟩⟩⟩⟩⟩⟩⟩
theorem sol_12 : ∀ k ∈ [144, 145, 146, 147, 148, 149, 150, 151, 152, 153, 154, 155], ∀ j, (sm_ins k (j + sm_sz k)).1 = 99 := List.forall_mem_cons.mpr ⟨so_144, List.forall_mem_cons.mpr ⟨so_145, List.forall_mem_cons.mpr ⟨so_146, List.forall_mem_cons.mpr ⟨so_147, List.forall_mem_cons.mpr ⟨so_148, List.forall_mem_cons.mpr ⟨so_149, List.forall_mem_cons.mpr ⟨so_150, List.forall_mem_cons.mpr ⟨so_151, List.forall_mem_cons.mpr ⟨so_152, List.forall_mem_cons.mpr ⟨so_153, List.forall_mem_cons.mpr ⟨so_154, List.forall_mem_cons.mpr ⟨so_155, fun _ h => absurd h List.not_mem_nil⟩⟩⟩⟩⟩⟩⟩⟩⟩⟩⟩⟩
theorem sol_13 : ∀ k ∈ [156, 157, 158, 159, 160, 161, 162, 163, 164, 165, 166, 167], ∀ j, (sm_ins k (j + sm_sz k)).1 = 99 := List.forall_mem_cons.mpr ⟨so_156, List.forall_mem_cons.mpr ⟨so_157, List.forall_mem_cons.mpr ⟨so_158, List.forall_mem_cons.mpr ⟨so_159, List.forall_mem_cons.mpr ⟨so_160, List.forall_mem_cons.mpr ⟨so_161, List.forall_mem_cons.mpr ⟨so_162, List.forall_mem_cons.mpr ⟨so_163, List.forall_mem_cons.mpr ⟨so_164, List.forall_mem_cons.mpr ⟨so_165, List.forall_mem_cons.mpr ⟨so_166, List.forall_mem_cons.mpr ⟨so_167, fun _ h => absurd h List.not_mem_nil⟩⟩⟩⟩⟩⟩⟩⟩⟩⟩⟩⟩
theorem sol_14 : ∀ k ∈ [168, 169, 170, 171, 172, 173, 174, 175, 176, 177, 178, 179], ∀ j, (sm_ins k (j + sm_sz k)).1 = 99 := List.forall_mem_cons.mpr ⟨so_168, List.forall_mem_cons.mpr ⟨so_169, List.forall_mem_cons.mpr ⟨so_170, List.forall_mem_cons.mpr ⟨so_171, List.forall_mem_cons.mpr ⟨so_172, List.forall_mem_cons.mpr ⟨so_173, List.forall_mem_cons.mpr ⟨so_174, List.forall_mem_cons.mpr ⟨so_175, List.forall_mem_cons.mpr ⟨so_176, List.forall_mem_cons.mpr ⟨so_177, List.forall_mem_cons.mpr ⟨so_178, List.forall_mem_cons.mpr ⟨so_179, fun _ h => absurd h List.not_mem_nil⟩⟩⟩⟩⟩⟩⟩⟩⟩⟩⟩⟩
theorem sol_15 : ∀ k ∈ [180, 181, 182, 183, 184, 185, 186, 187, 188, 189, 190, 191], ∀ j, (sm_ins k (j + sm_sz k)).1 = 99 := List.forall_mem_cons.mpr ⟨so_180, List.forall_mem_cons.mpr ⟨so_181, List.forall_mem_cons.mpr ⟨so_182, List.forall_mem_cons.mpr ⟨so_183, List.forall_mem_cons.mpr ⟨so_184, List.forall_mem_cons.mpr ⟨so_185, List.forall_mem_cons.mpr ⟨so_186, List.forall_mem_cons.mpr ⟨so_187, List.forall_mem_cons.mpr ⟨so_188, List.forall_mem_cons.mpr ⟨so_189, List.forall_mem_cons.mpr ⟨so_190, List.forall_mem_cons.mpr ⟨so_191, fun _ h => absurd h List.not_mem_nil⟩⟩⟩⟩⟩⟩⟩⟩⟩⟩⟩⟩
theorem sol_16 : ∀ k ∈ [192, 193, 194, 195, 196, 197, 198, 199, 200, 201, 202, 203], ∀ j, (sm_ins k (j + sm_sz k)).1 = 99 := List.forall_mem_cons.mpr ⟨so_192, List.forall_mem_cons.mpr ⟨so_193, List.forall_mem_cons.mpr ⟨so_194, List.forall_mem_cons.mpr ⟨so_195, List.forall_mem_cons.mpr ⟨so_196, List.forall_mem_cons.mpr ⟨so_197, List.forall_mem_cons.mpr ⟨so_198, List.forall_mem_cons.mpr ⟨so_199, List.forall_mem_cons.mpr ⟨so_200, List.forall_mem_cons.mpr ⟨so_201, List.forall_mem_cons.mpr ⟨so_202, List.forall_mem_cons.mpr ⟨so_203, fun _ h => absurd h List.not_mem_nil⟩⟩⟩⟩⟩⟩⟩⟩⟩⟩⟩⟩
theorem sol_17 : ∀ k ∈ [204, 205, 206, 207, 208, 209, 210, 211, 212, 213, 214, 215], ∀ j, (sm_ins k (j + sm_sz k)).1 = 99 := List.forall_mem_cons.mpr ⟨so_204, List.forall_mem_cons.mpr ⟨so_205, List.forall_mem_cons.mpr ⟨so_206, List.forall_mem_cons.mpr ⟨so_207, List.forall_mem_cons.mpr ⟨so_208, List.forall_mem_cons.mpr ⟨so_209, List.forall_mem_cons.mpr ⟨so_210, List.forall_mem_cons.mpr ⟨so_211, List.forall_mem_cons.mpr ⟨so_212, List.forall_mem_cons.mpr ⟨so_213, List.forall_mem_cons.mpr ⟨so_214, List.forall_mem_cons.mpr ⟨so_215, fun _ h => absurd h List.not_mem_nil⟩⟩⟩⟩⟩⟩⟩⟩⟩⟩⟩⟩
theorem sol_18 : ∀ k ∈ [216, 217, 218, 219, 220, 221, 222, 223, 224, 225, 226, 227], ∀ j, (sm_ins k (j + sm_sz k)).1 = 99 := List.forall_mem_cons.mpr ⟨so_216, List.forall_mem_cons.mpr ⟨so_217, List.forall_mem_cons.mpr ⟨so_218, List.forall_mem_cons.mpr ⟨so_219, List.forall_mem_cons.mpr ⟨so_220, List.forall_mem_cons.mpr ⟨so_221, List.forall_mem_cons.mpr ⟨so_222, List.forall_mem_cons.mpr ⟨so_223, List.forall_mem_cons.mpr ⟨so_224, List.forall_mem_cons.mpr ⟨so_225, List.forall_mem_cons.mpr ⟨so_226, List.forall_mem_cons.mpr ⟨so_227, fun _ h => absurd h List.not_mem_nil⟩⟩⟩⟩⟩⟩⟩⟩⟩⟩⟩⟩
theorem sol_19 : ∀ k ∈ [228, 229, 230, 231, 232, 233, 234, 235, 236, 237, 238, 239], ∀ j, (sm_ins k (j + sm_sz k)).1 = 99 := List.forall_mem_cons.mpr ⟨so_228, List.forall_mem_cons.mpr ⟨so_229, List.forall_mem_cons.mpr ⟨so_230, List.forall_mem_cons.mpr ⟨so_231, List.forall_mem_cons.mpr ⟨so_232, List.forall_mem_cons.mpr ⟨so_233, List.forall_mem_cons.mpr ⟨so_234, List.forall_mem_cons.mpr ⟨so_235, List.forall_mem_cons.mpr ⟨so_236, List.forall_mem_cons.mpr ⟨so_237, List.forall_mem_cons.mpr ⟨so_238, List.forall_mem_cons.mpr ⟨so_239, fun _ h => absurd h List.not_mem_nil⟩⟩⟩⟩⟩⟩⟩⟩⟩⟩⟩⟩
theorem sol_20 : ∀ k ∈ [240, 241, 242, 243, 244, 245, 246, 247, 248, 249, 250, 251], ∀ j, (sm_ins k (j + sm_sz k)).1 = 99 := List.forall_mem_cons.mpr ⟨so_240, List.forall_mem_cons.mpr ⟨so_241, List.forall_mem_cons.mpr ⟨so_242, List.forall_mem_cons.mpr ⟨so_243, List.forall_mem_cons.mpr ⟨so_244, List.forall_mem_cons.mpr ⟨so_245, List.forall_mem_cons.mpr ⟨so_246, List.forall_mem_cons.mpr ⟨so_247, List.forall_mem_cons.mpr ⟨so_248, List.forall_mem_cons.mpr ⟨so_249, List.forall_mem_cons.mpr ⟨so_250, List.forall_mem_cons.mpr ⟨so_251, fun _ h => absurd h List.not_mem_nil⟩⟩⟩⟩⟩⟩⟩⟩⟩⟩⟩⟩
theorem sol_21 : ∀ k ∈ [252, 253, 254, 255, 256, 257, 258, 259, 260, 261, 262, 263], ∀ j, (sm_ins k (j + sm_sz k)).1 = 99 := List.forall_mem_cons.mpr ⟨so_252, List.forall_mem_cons.mpr ⟨so_253, List.forall_mem_cons.mpr ⟨so_254, List.forall_mem_cons.mpr ⟨so_255, List.forall_mem_cons.mpr ⟨so_256, List.forall_mem_cons.mpr ⟨so_257, List.forall_mem_cons.mpr ⟨so_258, List.forall_mem_cons.mpr ⟨so_259, List.forall_mem_cons.mpr ⟨so_260, List.forall_mem_cons.mpr ⟨so_261, List.forall_mem_cons.mpr ⟨so_262, List.forall_mem_cons.mpr ⟨so_263, fun _ h => absurd h List.not_mem_nil⟩⟩⟩⟩⟩⟩⟩⟩⟩⟩⟩⟩
theorem sol_22 : ∀ k ∈ [264, 265, 266, 267, 268, 269, 270, 271, 272, 273, 274, 275], ∀ j, (sm_ins k (j + sm_sz k)).1 = 99 := List.forall_mem_cons.mpr ⟨so_264, List.forall_mem_cons.mpr ⟨so_265, List.forall_mem_cons.mpr ⟨so_266, List.forall_mem_cons.mpr ⟨so_267, List.forall_mem_cons.mpr ⟨so_268, List.forall_mem_cons.mpr ⟨so_269, List.forall_mem_cons.mpr ⟨so_270, List.forall_mem_cons.mpr ⟨so_271, List.forall_mem_cons.mpr ⟨so_272, List.forall_mem_cons.mpr ⟨so_273, List.forall_mem_cons.mpr ⟨so_274, List.forall_mem_cons.mpr ⟨so_275, fun _ h => absurd h List.not_mem_nil⟩⟩⟩⟩⟩⟩⟩⟩⟩⟩⟩⟩
theorem so_all (k : Nat) (hk : k < 276) (j : Nat) : (sm_ins k (j + sm_sz k)).1 = 99 := by
  have hq : k / 12 < 23 := by omega
  rcases (show k / 12 = 0 ∨ k / 12 = 1 ∨ k / 12 = 2 ∨ k / 12 = 3 ∨ k / 12 = 4 ∨ k / 12 = 5 ∨ k / 12 = 6 ∨ k / 12 = 7 ∨ k / 12 = 8 ∨ k / 12 = 9 ∨ k / 12 = 10 ∨ k / 12 = 11 ∨ k / 12 = 12 ∨ k / 12 = 13 ∨ k / 12 = 14 ∨ k / 12 = 15 ∨ k / 12 = 16 ∨ k / 12 = 17 ∨ k / 12 = 18 ∨ k / 12 = 19 ∨ k / 12 = 20 ∨ k / 12 = 21 ∨ k / 12 = 22 by omega) with h | h | h | h | h | h | h | h | h | h | h | h | h | h | h | h | h | h | h | h | h | h | h
  · exact sol_0 k (by simp only [List.mem_cons, List.not_mem_nil, or_false]; omega) j
  · exact sol_1 k (by simp only [List.mem_cons, List.not_mem_nil, or_false]; omega) j
  · exact sol_2 k (by simp only [List.mem_cons, List.not_mem_nil, or_false]; omega) j
  · exact sol_3 k (by simp only [List.mem_cons, List.not_mem_nil, or_false]; omega) j
  · exact sol_4 k (by simp only [List.mem_cons, List.not_mem_nil, or_false]; omega) j
  · exact sol_5 k (by simp only [List.mem_cons, List.not_mem_nil, or_false]; omega) j
  · exact sol_6 k (by simp only [List.mem_cons, List.not_mem_nil, or_false]; omega) j
  · exact sol_7 k (by simp only [List.mem_cons, List.not_mem_nil, or_false]; omega) j
  · exact sol_8 k (by simp only [List.mem_cons, List.not_mem_nil, or_false]; omega) j
  · exact sol_9 k (by simp only [List.mem_cons, List.not_mem_nil, or_false]; omega) j
  · exact sol_10 k (by simp only [List.mem_cons, List.not_mem_nil, or_false]; omega) j
  · exact sol_11 k (by simp only [List.mem_cons, List.not_mem_nil, or_false]; omega) j
  · exact sol_12 k (by simp only [List.mem_cons, List.not_mem_nil, or_false]; omega) j
  · exact sol_13 k (by simp only [List.mem_cons, List.not_mem_nil, or_false]; omega) j
  · exact sol_14 k (by simp only [List.mem_cons, List.not_mem_nil, or_false]; omega) j
  · exact sol_15 k (by simp only [List.mem_cons, List.not_mem_nil, or_false]; omega) j
  · exact sol_16 k (by simp only [List.mem_cons, List.not_mem_nil, or_false]; omega) j
  · exact sol_17 k (by simp only [List.mem_cons, List.not_mem_nil, or_false]; omega) j
  · exact sol_18 k (by simp only [List.mem_cons, List.not_mem_nil, or_false]; omega) j
  · exact sol_19 k (by simp only [List.mem_cons, List.not_mem_nil, or_false]; omega) j
  · exact sol_20 k (by simp only [List.mem_cons, List.not_mem_nil, or_false]; omega) j
  · exact sol_21 k (by simp only [List.mem_cons, List.not_mem_nil, or_false]; omega) j
  · exact sol_22 k (by simp only [List.mem_cons, List.not_mem_nil, or_false]; omega) j
theorem ci_all (k : Nat) (hk : k < 276) (pc : Nat) : ci_ok k pc = true := by
  rcases Nat.lt_or_ge pc (sm_sz k) with hp | hp
  · by_cases k0 : k = 0
    · subst k0
      have hp : pc < 1879 := hp
      have hq : pc / 100 < 19 := by omega
      rcases (show pc / 100 = 0 ∨ pc / 100 = 1 ∨ pc / 100 = 2 ∨ pc / 100 = 3 ∨ pc / 100 = 4 ∨ pc / 100 = 5 ∨ pc / 100 = 6 ∨ pc / 100 = 7 ∨ pc / 100 = 8 ∨ pc / 100 = 9 ∨ pc / 100 = 10 ∨ pc / 100 = 11 ∨ pc / 100 = 12 ∨ pc / 100 = 13 ∨ pc / 100 = 14 ∨ pc / 100 = 15 ∨ pc / 100 = 16 ∨ pc / 100 = 17 ∨ pc / 100 = 18 by omega) with h | h | h | h | h | h | h | h | h | h | h | h | h | h | h | h | h | h | h
      · have := sm_upto_ok ck_i0_0 (pc - 0) (by omega)
        rwa [show 0 + (pc - 0) = pc by omega] at this
      · have := sm_upto_ok ck_i0_1 (pc - 100) (by omega)
        rwa [show 100 + (pc - 100) = pc by omega] at this
      · have := sm_upto_ok ck_i0_2 (pc - 200) (by omega)
        rwa [show 200 + (pc - 200) = pc by omega] at this
      · have := sm_upto_ok ck_i0_3 (pc - 300) (by omega)
        rwa [show 300 + (pc - 300) = pc by omega] at this
      · have := sm_upto_ok ck_i0_4 (pc - 400) (by omega)
        rwa [show 400 + (pc - 400) = pc by omega] at this
      · have := sm_upto_ok ck_i0_5 (pc - 500) (by omega)
        rwa [show 500 + (pc - 500) = pc by omega] at this
      · have := sm_upto_ok ck_i0_6 (pc - 600) (by omega)
        rwa [show 600 + (pc - 600) = pc by omega] at this
      · have := sm_upto_ok ck_i0_7 (pc - 700) (by omega)
        rwa [show 700 + (pc - 700) = pc by omega] at this
      · have := sm_upto_ok ck_i0_8 (pc - 800) (by omega)
        rwa [show 800 + (pc - 800) = pc by omega] at this
      · have := sm_upto_ok ck_i0_9 (pc - 900) (by omega)
        rwa [show 900 + (pc - 900) = pc by omega] at this
      · have := sm_upto_ok ck_i0_10 (pc - 1000) (by omega)
        rwa [show 1000 + (pc - 1000) = pc by omega] at this
      · have := sm_upto_ok ck_i0_11 (pc - 1100) (by omega)
        rwa [show 1100 + (pc - 1100) = pc by omega] at this
      · have := sm_upto_ok ck_i0_12 (pc - 1200) (by omega)
        rwa [show 1200 + (pc - 1200) = pc by omega] at this
      · have := sm_upto_ok ck_i0_13 (pc - 1300) (by omega)
        rwa [show 1300 + (pc - 1300) = pc by omega] at this
      · have := sm_upto_ok ck_i0_14 (pc - 1400) (by omega)
        rwa [show 1400 + (pc - 1400) = pc by omega] at this
      · have := sm_upto_ok ck_i0_15 (pc - 1500) (by omega)
        rwa [show 1500 + (pc - 1500) = pc by omega] at this
      · have := sm_upto_ok ck_i0_16 (pc - 1600) (by omega)
        rwa [show 1600 + (pc - 1600) = pc by omega] at this
      · have := sm_upto_ok ck_i0_17 (pc - 1700) (by omega)
        rwa [show 1700 + (pc - 1700) = pc by omega] at this
      · have := sm_upto_ok ck_i0_18 (pc - 1800) (by omega)
        rwa [show 1800 + (pc - 1800) = pc by omega] at this
    · have hq : k / 10 < 28 := by omega
      rcases (show k / 10 = 0 ∨ k / 10 = 1 ∨ k / 10 = 2 ∨ k / 10 = 3 ∨ k / 10 = 4 ∨ k / 10 = 5 ∨ k / 10 = 6 ∨ k / 10 = 7 ∨ k / 10 = 8 ∨ k / 10 = 9 ∨ k / 10 = 10 ∨ k / 10 = 11 ∨ k / 10 = 12 ∨ k / 10 = 13 ∨ k / 10 = 14 ∨ k / 10 = 15 ∨ k / 10 = 16 ∨ k / 10 = 17 ∨ k / 10 = 18 ∨ k / 10 = 19 ∨ k / 10 = 20 ∨ k / 10 = 21 ∨ k / 10 = 22 ∨ k / 10 = 23 ∨ k / 10 = 24 ∨ k / 10 = 25 ∨ k / 10 = 26 ∨ k / 10 = 27 by omega) with h | h | h | h | h | h | h | h | h | h | h | h | h | h | h | h | h | h | h | h | h | h | h | h | h | h | h | h
      · have h1 := sm_upto_ok ck_i1 (k - 0) (by omega)
        rw [show 0 + (k - 0) = k by omega] at h1
        rcases (Bool.or_eq_true _ _).mp h1 with h2 | h2
        · exact absurd (Nat.eq_of_beq_eq_true h2) k0
        · have h3 := sm_upto_ok h2 pc hp
          rwa [show 0 + pc = pc by omega] at h3
      · have h1 := sm_upto_ok ck_i2 (k - 10) (by omega)
        rw [show 10 + (k - 10) = k by omega] at h1
        rcases (Bool.or_eq_true _ _).mp h1 with h2 | h2
        · exact absurd (Nat.eq_of_beq_eq_true h2) k0
        · have h3 := sm_upto_ok h2 pc hp
          rwa [show 0 + pc = pc by omega] at h3
      · have h1 := sm_upto_ok ck_i3 (k - 20) (by omega)
        rw [show 20 + (k - 20) = k by omega] at h1
        rcases (Bool.or_eq_true _ _).mp h1 with h2 | h2
        · exact absurd (Nat.eq_of_beq_eq_true h2) k0
        · have h3 := sm_upto_ok h2 pc hp
          rwa [show 0 + pc = pc by omega] at h3
      · have h1 := sm_upto_ok ck_i4 (k - 30) (by omega)
        rw [show 30 + (k - 30) = k by omega] at h1
        rcases (Bool.or_eq_true _ _).mp h1 with h2 | h2
        · exact absurd (Nat.eq_of_beq_eq_true h2) k0
        · have h3 := sm_upto_ok h2 pc hp
          rwa [show 0 + pc = pc by omega] at h3
      · have h1 := sm_upto_ok ck_i5 (k - 40) (by omega)
        rw [show 40 + (k - 40) = k by omega] at h1
        rcases (Bool.or_eq_true _ _).mp h1 with h2 | h2
        · exact absurd (Nat.eq_of_beq_eq_true h2) k0
        · have h3 := sm_upto_ok h2 pc hp
          rwa [show 0 + pc = pc by omega] at h3
      · have h1 := sm_upto_ok ck_i6 (k - 50) (by omega)
        rw [show 50 + (k - 50) = k by omega] at h1
        rcases (Bool.or_eq_true _ _).mp h1 with h2 | h2
        · exact absurd (Nat.eq_of_beq_eq_true h2) k0
        · have h3 := sm_upto_ok h2 pc hp
          rwa [show 0 + pc = pc by omega] at h3
      · have h1 := sm_upto_ok ck_i7 (k - 60) (by omega)
        rw [show 60 + (k - 60) = k by omega] at h1
        rcases (Bool.or_eq_true _ _).mp h1 with h2 | h2
        · exact absurd (Nat.eq_of_beq_eq_true h2) k0
        · have h3 := sm_upto_ok h2 pc hp
          rwa [show 0 + pc = pc by omega] at h3
      · have h1 := sm_upto_ok ck_i8 (k - 70) (by omega)
        rw [show 70 + (k - 70) = k by omega] at h1
        rcases (Bool.or_eq_true _ _).mp h1 with h2 | h2
        · exact absurd (Nat.eq_of_beq_eq_true h2) k0
        · have h3 := sm_upto_ok h2 pc hp
          rwa [show 0 + pc = pc by omega] at h3
      · have h1 := sm_upto_ok ck_i9 (k - 80) (by omega)
        rw [show 80 + (k - 80) = k by omega] at h1
        rcases (Bool.or_eq_true _ _).mp h1 with h2 | h2
        · exact absurd (Nat.eq_of_beq_eq_true h2) k0
        · have h3 := sm_upto_ok h2 pc hp
          rwa [show 0 + pc = pc by omega] at h3
      · have h1 := sm_upto_ok ck_i10 (k - 90) (by omega)
        rw [show 90 + (k - 90) = k by omega] at h1
        rcases (Bool.or_eq_true _ _).mp h1 with h2 | h2
        · exact absurd (Nat.eq_of_beq_eq_true h2) k0
        · have h3 := sm_upto_ok h2 pc hp
          rwa [show 0 + pc = pc by omega] at h3
      · have h1 := sm_upto_ok ck_i11 (k - 100) (by omega)
        rw [show 100 + (k - 100) = k by omega] at h1
        rcases (Bool.or_eq_true _ _).mp h1 with h2 | h2
        · exact absurd (Nat.eq_of_beq_eq_true h2) k0
        · have h3 := sm_upto_ok h2 pc hp
          rwa [show 0 + pc = pc by omega] at h3
      · have h1 := sm_upto_ok ck_i12 (k - 110) (by omega)
        rw [show 110 + (k - 110) = k by omega] at h1
        rcases (Bool.or_eq_true _ _).mp h1 with h2 | h2
        · exact absurd (Nat.eq_of_beq_eq_true h2) k0
        · have h3 := sm_upto_ok h2 pc hp
          rwa [show 0 + pc = pc by omega] at h3
      · have h1 := sm_upto_ok ck_i13 (k - 120) (by omega)
        rw [show 120 + (k - 120) = k by omega] at h1
        rcases (Bool.or_eq_true _ _).mp h1 with h2 | h2
        · exact absurd (Nat.eq_of_beq_eq_true h2) k0
        · have h3 := sm_upto_ok h2 pc hp
          rwa [show 0 + pc = pc by omega] at h3
      · have h1 := sm_upto_ok ck_i14 (k - 130) (by omega)
        rw [show 130 + (k - 130) = k by omega] at h1
        rcases (Bool.or_eq_true _ _).mp h1 with h2 | h2
        · exact absurd (Nat.eq_of_beq_eq_true h2) k0
        · have h3 := sm_upto_ok h2 pc hp
          rwa [show 0 + pc = pc by omega] at h3
      · have h1 := sm_upto_ok ck_i15 (k - 140) (by omega)
        rw [show 140 + (k - 140) = k by omega] at h1
        rcases (Bool.or_eq_true _ _).mp h1 with h2 | h2
        · exact absurd (Nat.eq_of_beq_eq_true h2) k0
        · have h3 := sm_upto_ok h2 pc hp
          rwa [show 0 + pc = pc by omega] at h3
      · have h1 := sm_upto_ok ck_i16 (k - 150) (by omega)
        rw [show 150 + (k - 150) = k by omega] at h1
        rcases (Bool.or_eq_true _ _).mp h1 with h2 | h2
        · exact absurd (Nat.eq_of_beq_eq_true h2) k0
        · have h3 := sm_upto_ok h2 pc hp
          rwa [show 0 + pc = pc by omega] at h3
      · have h1 := sm_upto_ok ck_i17 (k - 160) (by omega)
        rw [show 160 + (k - 160) = k by omega] at h1
        rcases (Bool.or_eq_true _ _).mp h1 with h2 | h2
        · exact absurd (Nat.eq_of_beq_eq_true h2) k0
        · have h3 := sm_upto_ok h2 pc hp
          rwa [show 0 + pc = pc by omega] at h3
      · have h1 := sm_upto_ok ck_i18 (k - 170) (by omega)
        rw [show 170 + (k - 170) = k by omega] at h1
        rcases (Bool.or_eq_true _ _).mp h1 with h2 | h2
        · exact absurd (Nat.eq_of_beq_eq_true h2) k0
        · have h3 := sm_upto_ok h2 pc hp
          rwa [show 0 + pc = pc by omega] at h3
      · have h1 := sm_upto_ok ck_i19 (k - 180) (by omega)
        rw [show 180 + (k - 180) = k by omega] at h1
        rcases (Bool.or_eq_true _ _).mp h1 with h2 | h2
        · exact absurd (Nat.eq_of_beq_eq_true h2) k0
        · have h3 := sm_upto_ok h2 pc hp
          rwa [show 0 + pc = pc by omega] at h3
      · have h1 := sm_upto_ok ck_i20 (k - 190) (by omega)
        rw [show 190 + (k - 190) = k by omega] at h1
        rcases (Bool.or_eq_true _ _).mp h1 with h2 | h2
        · exact absurd (Nat.eq_of_beq_eq_true h2) k0
        · have h3 := sm_upto_ok h2 pc hp
          rwa [show 0 + pc = pc by omega] at h3
      · have h1 := sm_upto_ok ck_i21 (k - 200) (by omega)
        rw [show 200 + (k - 200) = k by omega] at h1
        rcases (Bool.or_eq_true _ _).mp h1 with h2 | h2
        · exact absurd (Nat.eq_of_beq_eq_true h2) k0
        · have h3 := sm_upto_ok h2 pc hp
          rwa [show 0 + pc = pc by omega] at h3
      · have h1 := sm_upto_ok ck_i22 (k - 210) (by omega)
        rw [show 210 + (k - 210) = k by omega] at h1
        rcases (Bool.or_eq_true _ _).mp h1 with h2 | h2
        · exact absurd (Nat.eq_of_beq_eq_true h2) k0
        · have h3 := sm_upto_ok h2 pc hp
          rwa [show 0 + pc = pc by omega] at h3
      · have h1 := sm_upto_ok ck_i23 (k - 220) (by omega)
        rw [show 220 + (k - 220) = k by omega] at h1
        rcases (Bool.or_eq_true _ _).mp h1 with h2 | h2
        · exact absurd (Nat.eq_of_beq_eq_true h2) k0
        · have h3 := sm_upto_ok h2 pc hp
          rwa [show 0 + pc = pc by omega] at h3
      · have h1 := sm_upto_ok ck_i24 (k - 230) (by omega)
        rw [show 230 + (k - 230) = k by omega] at h1
        rcases (Bool.or_eq_true _ _).mp h1 with h2 | h2
        · exact absurd (Nat.eq_of_beq_eq_true h2) k0
        · have h3 := sm_upto_ok h2 pc hp
          rwa [show 0 + pc = pc by omega] at h3
      · have h1 := sm_upto_ok ck_i25 (k - 240) (by omega)
        rw [show 240 + (k - 240) = k by omega] at h1
        rcases (Bool.or_eq_true _ _).mp h1 with h2 | h2
        · exact absurd (Nat.eq_of_beq_eq_true h2) k0
        · have h3 := sm_upto_ok h2 pc hp
          rwa [show 0 + pc = pc by omega] at h3
      · have h1 := sm_upto_ok ck_i26 (k - 250) (by omega)
        rw [show 250 + (k - 250) = k by omega] at h1
        rcases (Bool.or_eq_true _ _).mp h1 with h2 | h2
        · exact absurd (Nat.eq_of_beq_eq_true h2) k0
        · have h3 := sm_upto_ok h2 pc hp
          rwa [show 0 + pc = pc by omega] at h3
      · have h1 := sm_upto_ok ck_i27 (k - 260) (by omega)
        rw [show 260 + (k - 260) = k by omega] at h1
        rcases (Bool.or_eq_true _ _).mp h1 with h2 | h2
        · exact absurd (Nat.eq_of_beq_eq_true h2) k0
        · have h3 := sm_upto_ok h2 pc hp
          rwa [show 0 + pc = pc by omega] at h3
      · have h1 := sm_upto_ok ck_i28 (k - 270) (by omega)
        rw [show 270 + (k - 270) = k by omega] at h1
        rcases (Bool.or_eq_true _ _).mp h1 with h2 | h2
        · exact absurd (Nat.eq_of_beq_eq_true h2) k0
        · have h3 := sm_upto_ok h2 pc hp
          rwa [show 0 + pc = pc by omega] at h3
  · have h := so_all k hk (pc - sm_sz k)
    rw [show pc - sm_sz k + sm_sz k = pc by omega] at h
    unfold ci_ok
    generalize sm_ins k pc = q at h
    obtain ⟨tag, a, b, nx, z⟩ := q
    have h : tag = 99 := h
    subst h
    rfl
