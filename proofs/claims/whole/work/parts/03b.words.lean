/-! The words of the tables that the methods need, each by its place. Printed by gen.py. -/
theorem cw_0 : Cond.instantiable "CellMapper" 8 ∈ cx_tb := cx_in1 (i := 14) (by decide +kernel) rfl
theorem cw_1 : Cond.initialized "CellMapper" ∈ cx_tb := cx_in1 (i := 1) (by decide +kernel) rfl
theorem cw_2 : Cond.instantiable "CellMapper$Graph" 5 ∈ cx_tb := cx_in1 (i := 22) (by decide +kernel) rfl
theorem cw_3 : Cond.initialized "CellMapper$Graph" ∈ cx_tb := cx_in1 (i := 2) (by decide +kernel) rfl
theorem cw_4 : Cond.instantiable "CellMapper$Circuit" 13 ∈ cx_tb := cx_in1 (i := 45) (by decide +kernel) rfl
theorem cw_5 : Cond.initialized "CellMapper$Circuit" ∈ cx_tb := cx_in1 (i := 3) (by decide +kernel) rfl
theorem cw_6 : Cond.instantiable "CellMapper$Library" 7 ∈ cx_tb := cx_in1 (i := 91) (by decide +kernel) rfl
theorem cw_7 : Cond.initialized "CellMapper$Library" ∈ cx_tb := cx_in1 (i := 4) (by decide +kernel) rfl
theorem cw_8 : Cond.instantiable "CellMapper$Cover" 13 ∈ cx_tb := cx_in1 (i := 119) (by decide +kernel) rfl
theorem cw_9 : Cond.initialized "CellMapper$Cover" ∈ cx_tb := cx_in1 (i := 5) (by decide +kernel) rfl
theorem cw_10 : Cond.instantiable "CellMapper$Connections" 10 ∈ cx_tb := cx_in1 (i := 166) (by decide +kernel) rfl
theorem cw_11 : Cond.initialized "CellMapper$Connections" ∈ cx_tb := cx_in1 (i := 6) (by decide +kernel) rfl
theorem cw_12 : Cond.instantiable "CellMapper$Retiming" 7 ∈ cx_tb := cx_in1 (i := 204) (by decide +kernel) rfl
theorem cw_13 : Cond.initialized "CellMapper$Retiming" ∈ cx_tb := cx_in1 (i := 7) (by decide +kernel) rfl
theorem cw_14 : Cond.instantiable "CellMapper$Machine" 8 ∈ cx_tb := cx_in1 (i := 232) (by decide +kernel) rfl
theorem cw_15 : Cond.initialized "CellMapper$Machine" ∈ cx_tb := cx_in1 (i := 8) (by decide +kernel) rfl
theorem cw_16 : Cond.instantiable "CellMapperModel" 51 ∈ cx_tb := cx_in1 (i := 868) (by decide +kernel) rfl
theorem cw_17 : Cond.initialized "CellMapperModel" ∈ cx_tb := cx_in1 (i := 9) (by decide +kernel) rfl
theorem cw_18 : Cond.constant "CellMapper$Cover" 133 (48001) ∈ cx_tb := cx_in1 (i := 535) (by decide +kernel) rfl
theorem cw_19 : Cond.constant "CellMapperModel" 216 (1000000) ∈ cx_tb := cx_in1 (i := 1149) (by decide +kernel) rfl
theorem cw_20 : Cond.constantLong "CellMapper" 170 (-6) ∈ cx_tb := cx_in1 (i := 792) (by decide +kernel) rfl
theorem cw_21 : Cond.constantLong "CellMapper" 175 (-1) ∈ cx_tb := cx_in1 (i := 807) (by decide +kernel) rfl
theorem cw_22 : Cond.constantLong "CellMapper$Connections" 47 (64) ∈ cx_tb := cx_in1 (i := 812) (by decide +kernel) rfl
theorem cw_23 : Cond.constantLong "CellMapperModel" 294 (-6) ∈ cx_tb := cx_in1 (i := 1242) (by decide +kernel) rfl
theorem cw_24 : Cond.constantLong "CellMapperModel" 296 (-1) ∈ cx_tb := cx_in1 (i := 1243) (by decide +kernel) rfl
theorem cw_25 : Cond.constantLong "CellMapperModel" 298 (64) ∈ cx_tb := cx_in1 (i := 1244) (by decide +kernel) rfl
theorem cw_26 : Cond.fieldLink "CellMapper" 10 "CellMapper" "graph" "LCellMapper$Graph;" ∈ cx_tb := cx_in1 (i := 262) (by decide +kernel) rfl
theorem cw_27 : Cond.fieldLink "CellMapper" 21 "CellMapper" "circuit" "LCellMapper$Circuit;" ∈ cx_tb := cx_in1 (i := 263) (by decide +kernel) rfl
theorem cw_28 : Cond.fieldLink "CellMapper" 28 "CellMapper" "library" "LCellMapper$Library;" ∈ cx_tb := cx_in1 (i := 264) (by decide +kernel) rfl
theorem cw_29 : Cond.fieldLink "CellMapper" 37 "CellMapper" "cover" "LCellMapper$Cover;" ∈ cx_tb := cx_in1 (i := 265) (by decide +kernel) rfl
theorem cw_30 : Cond.fieldLink "CellMapper" 46 "CellMapper" "connections" "LCellMapper$Connections;" ∈ cx_tb := cx_in1 (i := 266) (by decide +kernel) rfl
theorem cw_31 : Cond.fieldLink "CellMapper" 55 "CellMapper" "retiming" "LCellMapper$Retiming;" ∈ cx_tb := cx_in1 (i := 267) (by decide +kernel) rfl
theorem cw_32 : Cond.fieldLink "CellMapper" 64 "CellMapper" "machine" "LCellMapper$Machine;" ∈ cx_tb := cx_in1 (i := 268) (by decide +kernel) rfl
theorem cw_33 : Cond.fieldLink "CellMapper" 68 "CellMapper" "mapped" "Z" ∈ cx_tb := cx_in1 (i := 269) (by decide +kernel) rfl
theorem cw_34 : Cond.fieldLink "CellMapper$Graph" 9 "CellMapper$Graph" "kinds" "[I" ∈ cx_tb := cx_in1 (i := 27) (by decide +kernel) rfl
theorem cw_35 : Cond.fieldLink "CellMapper$Graph" 15 "CellMapper$Graph" "xs" "[I" ∈ cx_tb := cx_in1 (i := 28) (by decide +kernel) rfl
theorem cw_36 : Cond.fieldLink "CellMapper$Graph" 18 "CellMapper$Graph" "ys" "[I" ∈ cx_tb := cx_in1 (i := 29) (by decide +kernel) rfl
theorem cw_37 : Cond.fieldLink "CellMapper$Graph" 21 "CellMapper$Graph" "ordinals" "[I" ∈ cx_tb := cx_in1 (i := 30) (by decide +kernel) rfl
theorem cw_38 : Cond.fieldLink "CellMapper$Graph" 24 "CellMapper$Graph" "size" "I" ∈ cx_tb := cx_in1 (i := 31) (by decide +kernel) rfl
theorem cw_39 : Cond.fieldLink "CellMapper$Circuit" 9 "CellMapper$Circuit" "graph" "LCellMapper$Graph;" ∈ cx_tb := cx_in1 (i := 50) (by decide +kernel) rfl
theorem cw_40 : Cond.fieldLink "CellMapper$Circuit" 15 "CellMapper$Circuit" "netNodes" "[I" ∈ cx_tb := cx_in1 (i := 51) (by decide +kernel) rfl
theorem cw_41 : Cond.fieldLink "CellMapper$Circuit" 19 "CellMapper$Circuit" "netLatches" "[I" ∈ cx_tb := cx_in1 (i := 52) (by decide +kernel) rfl
theorem cw_42 : Cond.fieldLink "CellMapper$Circuit" 22 "CellMapper$Circuit" "drivers" "[I" ∈ cx_tb := cx_in1 (i := 53) (by decide +kernel) rfl
theorem cw_43 : Cond.fieldLink "CellMapper$Circuit" 25 "CellMapper$Circuit" "outputNets" "[I" ∈ cx_tb := cx_in1 (i := 54) (by decide +kernel) rfl
theorem cw_44 : Cond.fieldLink "CellMapper$Circuit" 28 "CellMapper$Circuit" "argumentNodes" "[I" ∈ cx_tb := cx_in1 (i := 55) (by decide +kernel) rfl
theorem cw_45 : Cond.fieldLink "CellMapper$Circuit" 31 "CellMapper$Circuit" "values" "[I" ∈ cx_tb := cx_in1 (i := 56) (by decide +kernel) rfl
theorem cw_46 : Cond.fieldLink "CellMapper$Circuit" 34 "CellMapper$Circuit" "netCount" "I" ∈ cx_tb := cx_in1 (i := 57) (by decide +kernel) rfl
theorem cw_47 : Cond.fieldLink "CellMapper$Circuit" 38 "CellMapper$Circuit" "outputCount" "I" ∈ cx_tb := cx_in1 (i := 60) (by decide +kernel) rfl
theorem cw_48 : Cond.fieldLink "CellMapper$Circuit" 41 "CellMapper$Circuit" "latchCount" "I" ∈ cx_tb := cx_in1 (i := 59) (by decide +kernel) rfl
theorem cw_49 : Cond.fieldLink "CellMapper$Circuit" 44 "CellMapper$Circuit" "initialBits" "I" ∈ cx_tb := cx_in1 (i := 61) (by decide +kernel) rfl
theorem cw_50 : Cond.fieldLink "CellMapper$Circuit" 47 "CellMapper$Circuit" "inputCount" "I" ∈ cx_tb := cx_in1 (i := 58) (by decide +kernel) rfl
theorem cw_51 : Cond.fieldLink "CellMapper$Circuit" 91 "CellMapper$Circuit" "presentBits" "I" ∈ cx_tb := cx_in1 (i := 62) (by decide +kernel) rfl
theorem cw_52 : Cond.fieldLink "CellMapper$Library" 9 "CellMapper$Library" "patterns" "[I" ∈ cx_tb := cx_in1 (i := 96) (by decide +kernel) rfl
theorem cw_53 : Cond.fieldLink "CellMapper$Library" 15 "CellMapper$Library" "areas" "[I" ∈ cx_tb := cx_in1 (i := 97) (by decide +kernel) rfl
theorem cw_54 : Cond.fieldLink "CellMapper$Library" 18 "CellMapper$Library" "delays" "[I" ∈ cx_tb := cx_in1 (i := 98) (by decide +kernel) rfl
theorem cw_55 : Cond.fieldLink "CellMapper$Library" 21 "CellMapper$Library" "pinCounts" "[I" ∈ cx_tb := cx_in1 (i := 99) (by decide +kernel) rfl
theorem cw_56 : Cond.fieldLink "CellMapper$Library" 24 "CellMapper$Library" "nandCounts" "[I" ∈ cx_tb := cx_in1 (i := 100) (by decide +kernel) rfl
theorem cw_57 : Cond.fieldLink "CellMapper$Library" 27 "CellMapper$Library" "tables" "[I" ∈ cx_tb := cx_in1 (i := 101) (by decide +kernel) rfl
theorem cw_58 : Cond.fieldLink "CellMapper$Library" 30 "CellMapper$Library" "size" "I" ∈ cx_tb := cx_in1 (i := 102) (by decide +kernel) rfl
theorem cw_59 : Cond.fieldLink "CellMapper$Cover" 9 "CellMapper$Cover" "graph" "LCellMapper$Graph;" ∈ cx_tb := cx_in1 (i := 124) (by decide +kernel) rfl
theorem cw_60 : Cond.fieldLink "CellMapper$Cover" 15 "CellMapper$Cover" "circuit" "LCellMapper$Circuit;" ∈ cx_tb := cx_in1 (i := 125) (by decide +kernel) rfl
theorem cw_61 : Cond.fieldLink "CellMapper$Cover" 19 "CellMapper$Cover" "library" "LCellMapper$Library;" ∈ cx_tb := cx_in1 (i := 126) (by decide +kernel) rfl
theorem cw_62 : Cond.fieldLink "CellMapper$Cover" 23 "CellMapper$Cover" "needed" "[Z" ∈ cx_tb := cx_in1 (i := 127) (by decide +kernel) rfl
theorem cw_63 : Cond.fieldLink "CellMapper$Cover" 27 "CellMapper$Cover" "liveUsers" "[I" ∈ cx_tb := cx_in1 (i := 128) (by decide +kernel) rfl
theorem cw_64 : Cond.fieldLink "CellMapper$Cover" 31 "CellMapper$Cover" "costs" "[I" ∈ cx_tb := cx_in1 (i := 129) (by decide +kernel) rfl
theorem cw_65 : Cond.fieldLink "CellMapper$Cover" 34 "CellMapper$Cover" "choices" "[I" ∈ cx_tb := cx_in1 (i := 130) (by decide +kernel) rfl
theorem cw_66 : Cond.fieldLink "CellMapper$Cover" 37 "CellMapper$Cover" "choicePins" "[I" ∈ cx_tb := cx_in1 (i := 131) (by decide +kernel) rfl
theorem cw_67 : Cond.fieldLink "CellMapper$Cover" 40 "CellMapper$Cover" "laidPins" "[I" ∈ cx_tb := cx_in1 (i := 132) (by decide +kernel) rfl
theorem cw_68 : Cond.fieldLink "CellMapper$Cover" 43 "CellMapper$Cover" "open" "[I" ∈ cx_tb := cx_in1 (i := 133) (by decide +kernel) rfl
theorem cw_69 : Cond.fieldLink "CellMapper$Cover" 46 "CellMapper$Cover" "gateMarks" "[Z" ∈ cx_tb := cx_in1 (i := 134) (by decide +kernel) rfl
theorem cw_70 : Cond.fieldLink "CellMapper$Cover" 49 "CellMapper$Cover" "gates" "[I" ∈ cx_tb := cx_in1 (i := 135) (by decide +kernel) rfl
theorem cw_71 : Cond.fieldLink "CellMapper$Cover" 52 "CellMapper$Cover" "gateCount" "I" ∈ cx_tb := cx_in1 (i := 136) (by decide +kernel) rfl
theorem cw_72 : Cond.fieldLink "CellMapper$Connections" 9 "CellMapper$Connections" "graph" "LCellMapper$Graph;" ∈ cx_tb := cx_in1 (i := 171) (by decide +kernel) rfl
theorem cw_73 : Cond.fieldLink "CellMapper$Connections" 15 "CellMapper$Connections" "circuit" "LCellMapper$Circuit;" ∈ cx_tb := cx_in1 (i := 172) (by decide +kernel) rfl
theorem cw_74 : Cond.fieldLink "CellMapper$Connections" 19 "CellMapper$Connections" "cover" "LCellMapper$Cover;" ∈ cx_tb := cx_in1 (i := 173) (by decide +kernel) rfl
theorem cw_75 : Cond.fieldLink "CellMapper$Connections" 23 "CellMapper$Connections" "sources" "[I" ∈ cx_tb := cx_in1 (i := 174) (by decide +kernel) rfl
theorem cw_76 : Cond.fieldLink "CellMapper$Connections" 27 "CellMapper$Connections" "targets" "[I" ∈ cx_tb := cx_in1 (i := 175) (by decide +kernel) rfl
theorem cw_77 : Cond.fieldLink "CellMapper$Connections" 30 "CellMapper$Connections" "counts" "[I" ∈ cx_tb := cx_in1 (i := 176) (by decide +kernel) rfl
theorem cw_78 : Cond.fieldLink "CellMapper$Connections" 33 "CellMapper$Connections" "rows" "[J" ∈ cx_tb := cx_in1 (i := 177) (by decide +kernel) rfl
theorem cw_79 : Cond.fieldLink "CellMapper$Connections" 37 "CellMapper$Connections" "firstOfGates" "[I" ∈ cx_tb := cx_in1 (i := 178) (by decide +kernel) rfl
theorem cw_80 : Cond.fieldLink "CellMapper$Connections" 40 "CellMapper$Connections" "size" "I" ∈ cx_tb := cx_in1 (i := 180) (by decide +kernel) rfl
theorem cw_81 : Cond.fieldLink "CellMapper$Connections" 44 "CellMapper$Connections" "firstOfOutputs" "I" ∈ cx_tb := cx_in1 (i := 179) (by decide +kernel) rfl
theorem cw_82 : Cond.fieldLink "CellMapper$Retiming" 9 "CellMapper$Retiming" "cover" "LCellMapper$Cover;" ∈ cx_tb := cx_in1 (i := 209) (by decide +kernel) rfl
theorem cw_83 : Cond.fieldLink "CellMapper$Retiming" 15 "CellMapper$Retiming" "connections" "LCellMapper$Connections;" ∈ cx_tb := cx_in1 (i := 210) (by decide +kernel) rfl
theorem cw_84 : Cond.fieldLink "CellMapper$Retiming" 19 "CellMapper$Retiming" "moves" "[I" ∈ cx_tb := cx_in1 (i := 211) (by decide +kernel) rfl
theorem cw_85 : Cond.fieldLink "CellMapper$Retiming" 23 "CellMapper$Retiming" "trial" "[I" ∈ cx_tb := cx_in1 (i := 212) (by decide +kernel) rfl
theorem cw_86 : Cond.fieldLink "CellMapper$Retiming" 26 "CellMapper$Retiming" "tails" "[I" ∈ cx_tb := cx_in1 (i := 213) (by decide +kernel) rfl
theorem cw_87 : Cond.fieldLink "CellMapper$Retiming" 29 "CellMapper$Retiming" "periodBefore" "I" ∈ cx_tb := cx_in1 (i := 214) (by decide +kernel) rfl
theorem cw_88 : Cond.fieldLink "CellMapper$Retiming" 33 "CellMapper$Retiming" "periodAfter" "I" ∈ cx_tb := cx_in1 (i := 215) (by decide +kernel) rfl
theorem cw_89 : Cond.fieldLink "CellMapper$Machine" 9 "CellMapper$Machine" "graph" "LCellMapper$Graph;" ∈ cx_tb := cx_in1 (i := 237) (by decide +kernel) rfl
theorem cw_90 : Cond.fieldLink "CellMapper$Machine" 15 "CellMapper$Machine" "circuit" "LCellMapper$Circuit;" ∈ cx_tb := cx_in1 (i := 238) (by decide +kernel) rfl
theorem cw_91 : Cond.fieldLink "CellMapper$Machine" 19 "CellMapper$Machine" "cover" "LCellMapper$Cover;" ∈ cx_tb := cx_in1 (i := 239) (by decide +kernel) rfl
theorem cw_92 : Cond.fieldLink "CellMapper$Machine" 23 "CellMapper$Machine" "connections" "LCellMapper$Connections;" ∈ cx_tb := cx_in1 (i := 240) (by decide +kernel) rfl
theorem cw_93 : Cond.fieldLink "CellMapper$Machine" 29 "CellMapper$Machine" "presentRows" "[J" ∈ cx_tb := cx_in1 (i := 241) (by decide +kernel) rfl
theorem cw_94 : Cond.fieldLink "CellMapper$Machine" 33 "CellMapper$Machine" "order" "[I" ∈ cx_tb := cx_in1 (i := 242) (by decide +kernel) rfl
theorem cw_95 : Cond.fieldLink "CellMapper$Machine" 37 "CellMapper$Machine" "placed" "[Z" ∈ cx_tb := cx_in1 (i := 243) (by decide +kernel) rfl
theorem cw_96 : Cond.fieldLink "CellMapper$Machine" 41 "CellMapper$Machine" "values" "[I" ∈ cx_tb := cx_in1 (i := 244) (by decide +kernel) rfl
theorem cw_97 : Cond.fieldLink "CellMapperModel" 7 "CellMapperModel" "sort" "[I" ∈ cx_tb := cx_in1 (i := 874) (by decide +kernel) rfl
theorem cw_98 : Cond.fieldLink "CellMapperModel" 13 "CellMapperModel" "nodeAt" "[I" ∈ cx_tb := cx_in1 (i := 875) (by decide +kernel) rfl
theorem cw_99 : Cond.fieldLink "CellMapperModel" 16 "CellMapperModel" "first" "[I" ∈ cx_tb := cx_in1 (i := 876) (by decide +kernel) rfl
theorem cw_100 : Cond.fieldLink "CellMapperModel" 19 "CellMapperModel" "now" "[I" ∈ cx_tb := cx_in1 (i := 877) (by decide +kernel) rfl
theorem cw_101 : Cond.fieldLink "CellMapperModel" 22 "CellMapperModel" "driver" "[I" ∈ cx_tb := cx_in1 (i := 878) (by decide +kernel) rfl
theorem cw_102 : Cond.fieldLink "CellMapperModel" 25 "CellMapperModel" "argA" "[I" ∈ cx_tb := cx_in1 (i := 879) (by decide +kernel) rfl
theorem cw_103 : Cond.fieldLink "CellMapperModel" 28 "CellMapperModel" "argB" "[I" ∈ cx_tb := cx_in1 (i := 880) (by decide +kernel) rfl
theorem cw_104 : Cond.fieldLink "CellMapperModel" 31 "CellMapperModel" "argC" "[I" ∈ cx_tb := cx_in1 (i := 881) (by decide +kernel) rfl
theorem cw_105 : Cond.fieldLink "CellMapperModel" 34 "CellMapperModel" "tableOf" "[I" ∈ cx_tb := cx_in1 (i := 882) (by decide +kernel) rfl
theorem cw_106 : Cond.fieldLink "CellMapperModel" 37 "CellMapperModel" "value" "[I" ∈ cx_tb := cx_in1 (i := 883) (by decide +kernel) rfl
theorem cw_107 : Cond.fieldLink "CellMapperModel" 40 "CellMapperModel" "kind" "[I" ∈ cx_tb := cx_in1 (i := 887) (by decide +kernel) rfl
theorem cw_108 : Cond.fieldLink "CellMapperModel" 43 "CellMapperModel" "px" "[I" ∈ cx_tb := cx_in1 (i := 888) (by decide +kernel) rfl
theorem cw_109 : Cond.fieldLink "CellMapperModel" 46 "CellMapperModel" "py" "[I" ∈ cx_tb := cx_in1 (i := 889) (by decide +kernel) rfl
theorem cw_110 : Cond.fieldLink "CellMapperModel" 49 "CellMapperModel" "netOf" "[I" ∈ cx_tb := cx_in1 (i := 890) (by decide +kernel) rfl
theorem cw_111 : Cond.fieldLink "CellMapperModel" 52 "CellMapperModel" "outputNet" "[I" ∈ cx_tb := cx_in1 (i := 892) (by decide +kernel) rfl
theorem cw_112 : Cond.fieldLink "CellMapperModel" 55 "CellMapperModel" "pattern" "[I" ∈ cx_tb := cx_in1 (i := 894) (by decide +kernel) rfl
theorem cw_113 : Cond.fieldLink "CellMapperModel" 58 "CellMapperModel" "areaOf" "[I" ∈ cx_tb := cx_in1 (i := 895) (by decide +kernel) rfl
theorem cw_114 : Cond.fieldLink "CellMapperModel" 61 "CellMapperModel" "delayOf" "[I" ∈ cx_tb := cx_in1 (i := 896) (by decide +kernel) rfl
theorem cw_115 : Cond.fieldLink "CellMapperModel" 64 "CellMapperModel" "live" "[Z" ∈ cx_tb := cx_in1 (i := 898) (by decide +kernel) rfl
theorem cw_116 : Cond.fieldLink "CellMapperModel" 68 "CellMapperModel" "root" "[Z" ∈ cx_tb := cx_in1 (i := 899) (by decide +kernel) rfl
theorem cw_117 : Cond.fieldLink "CellMapperModel" 71 "CellMapperModel" "readers" "[I" ∈ cx_tb := cx_in1 (i := 900) (by decide +kernel) rfl
theorem cw_118 : Cond.fieldLink "CellMapperModel" 74 "CellMapperModel" "cost" "[I" ∈ cx_tb := cx_in1 (i := 901) (by decide +kernel) rfl
theorem cw_119 : Cond.fieldLink "CellMapperModel" 77 "CellMapperModel" "choice" "[I" ∈ cx_tb := cx_in1 (i := 902) (by decide +kernel) rfl
theorem cw_120 : Cond.fieldLink "CellMapperModel" 80 "CellMapperModel" "swaps" "[I" ∈ cx_tb := cx_in1 (i := 903) (by decide +kernel) rfl
theorem cw_121 : Cond.fieldLink "CellMapperModel" 83 "CellMapperModel" "gate" "[Z" ∈ cx_tb := cx_in1 (i := 904) (by decide +kernel) rfl
theorem cw_122 : Cond.fieldLink "CellMapperModel" 86 "CellMapperModel" "stack" "[I" ∈ cx_tb := cx_in1 (i := 905) (by decide +kernel) rfl
theorem cw_123 : Cond.fieldLink "CellMapperModel" 89 "CellMapperModel" "pinNode" "[I" ∈ cx_tb := cx_in1 (i := 906) (by decide +kernel) rfl
theorem cw_124 : Cond.fieldLink "CellMapperModel" 92 "CellMapperModel" "source" "[I" ∈ cx_tb := cx_in1 (i := 908) (by decide +kernel) rfl
theorem cw_125 : Cond.fieldLink "CellMapperModel" 95 "CellMapperModel" "latchesAt" "[I" ∈ cx_tb := cx_in1 (i := 909) (by decide +kernel) rfl
theorem cw_126 : Cond.fieldLink "CellMapperModel" 98 "CellMapperModel" "starts" "[J" ∈ cx_tb := cx_in1 (i := 910) (by decide +kernel) rfl
theorem cw_127 : Cond.fieldLink "CellMapperModel" 102 "CellMapperModel" "kept" "[I" ∈ cx_tb := cx_in1 (i := 911) (by decide +kernel) rfl
theorem cw_128 : Cond.fieldLink "CellMapperModel" 105 "CellMapperModel" "later" "[J" ∈ cx_tb := cx_in1 (i := 912) (by decide +kernel) rfl
theorem cw_129 : Cond.fieldLink "CellMapperModel" 108 "CellMapperModel" "present" "[J" ∈ cx_tb := cx_in1 (i := 913) (by decide +kernel) rfl
theorem cw_130 : Cond.fieldLink "CellMapperModel" 111 "CellMapperModel" "far" "[I" ∈ cx_tb := cx_in1 (i := 914) (by decide +kernel) rfl
theorem cw_131 : Cond.fieldLink "CellMapperModel" 114 "CellMapperModel" "slow" "[I" ∈ cx_tb := cx_in1 (i := 915) (by decide +kernel) rfl
theorem cw_132 : Cond.fieldLink "CellMapperModel" 117 "CellMapperModel" "move" "[I" ∈ cx_tb := cx_in1 (i := 916) (by decide +kernel) rfl
theorem cw_133 : Cond.fieldLink "CellMapperModel" 120 "CellMapperModel" "gave" "[I" ∈ cx_tb := cx_in1 (i := 919) (by decide +kernel) rfl
theorem cw_134 : Cond.fieldLink "CellMapperModel" 123 "CellMapperModel" "given" "[I" ∈ cx_tb := cx_in1 (i := 920) (by decide +kernel) rfl
theorem cw_135 : Cond.fieldLink "CellMapperModel" 126 "CellMapperModel" "known" "[Z" ∈ cx_tb := cx_in1 (i := 921) (by decide +kernel) rfl
theorem cw_136 : Cond.fieldLink "CellMapperModel" 129 "CellMapperModel" "signal" "[I" ∈ cx_tb := cx_in1 (i := 922) (by decide +kernel) rfl
theorem cw_137 : Cond.fieldLink "CellMapperModel" 132 "CellMapperModel" "operand" "[I" ∈ cx_tb := cx_in1 (i := 923) (by decide +kernel) rfl
theorem cw_138 : Cond.fieldLink "CellMapperModel" 135 "CellMapperModel" "nodeCount" "I" ∈ cx_tb := cx_in1 (i := 886) (by decide +kernel) rfl
theorem cw_139 : Cond.fieldLink "CellMapperModel" 168 "CellMapperModel" "nets" "I" ∈ cx_tb := cx_in1 (i := 873) (by decide +kernel) rfl
theorem cw_140 : Cond.fieldLink "CellMapperModel" 171 "CellMapperModel" "mapped" "Z" ∈ cx_tb := cx_in1 (i := 897) (by decide +kernel) rfl
theorem cw_141 : Cond.fieldLink "CellMapperModel" 178 "CellMapperModel" "inputs" "I" ∈ cx_tb := cx_in1 (i := 884) (by decide +kernel) rfl
theorem cw_142 : Cond.fieldLink "CellMapperModel" 184 "CellMapperModel" "latchCount" "I" ∈ cx_tb := cx_in1 (i := 885) (by decide +kernel) rfl
theorem cw_143 : Cond.fieldLink "CellMapperModel" 194 "CellMapperModel" "outputs" "I" ∈ cx_tb := cx_in1 (i := 891) (by decide +kernel) rfl
theorem cw_144 : Cond.fieldLink "CellMapperModel" 200 "CellMapperModel" "cells" "I" ∈ cx_tb := cx_in1 (i := 893) (by decide +kernel) rfl
theorem cw_145 : Cond.fieldLink "CellMapperModel" 213 "CellMapperModel" "pins" "I" ∈ cx_tb := cx_in1 (i := 907) (by decide +kernel) rfl
theorem cw_146 : Cond.fieldLink "CellMapperModel" 237 "CellMapperModel" "periodBefore" "I" ∈ cx_tb := cx_in1 (i := 917) (by decide +kernel) rfl
theorem cw_147 : Cond.fieldLink "CellMapperModel" 246 "CellMapperModel" "periodAfter" "I" ∈ cx_tb := cx_in1 (i := 918) (by decide +kernel) rfl
theorem cw_148 : Cond.classLink "CellMapper" 7 "CellMapper$Graph" ∈ cx_tb := cx_in1 (i := 21) (by decide +kernel) rfl
theorem cw_149 : Cond.classLink "CellMapper" 16 "CellMapper$Circuit" ∈ cx_tb := cx_in1 (i := 44) (by decide +kernel) rfl
theorem cw_150 : Cond.classLink "CellMapper" 25 "CellMapper$Library" ∈ cx_tb := cx_in1 (i := 90) (by decide +kernel) rfl
theorem cw_151 : Cond.classLink "CellMapper" 32 "CellMapper$Cover" ∈ cx_tb := cx_in1 (i := 118) (by decide +kernel) rfl
theorem cw_152 : Cond.classLink "CellMapper" 41 "CellMapper$Connections" ∈ cx_tb := cx_in1 (i := 165) (by decide +kernel) rfl
theorem cw_153 : Cond.classLink "CellMapper" 50 "CellMapper$Retiming" ∈ cx_tb := cx_in1 (i := 203) (by decide +kernel) rfl
theorem cw_154 : Cond.classLink "CellMapper" 59 "CellMapper$Machine" ∈ cx_tb := cx_in1 (i := 231) (by decide +kernel) rfl
theorem cw_155 : Cond.classLink "CellMapperLaw" 7 "CellMapper" ∈ cx_tb := cx_in1 (i := 13) (by decide +kernel) rfl
theorem cw_156 : Cond.classLink "CellMapperLaw" 10 "CellMapperModel" ∈ cx_tb := cx_in1 (i := 867) (by decide +kernel) rfl
theorem cw_157 : Cond.methodLink "CellMapper" 72 ⟨"CellMapper$Circuit", "addInput", "()I"⟩ ∈ cx_tb := cx_in1 (i := 291) (by decide +kernel) rfl
theorem cw_158 : Cond.instanceMethod ⟨"CellMapper$Circuit", "addInput", "()I"⟩ ∈ cx_tb := cx_in1 (i := 292) (by decide +kernel) rfl
theorem cw_159 : Cond.selects "CellMapper$Circuit" ⟨"CellMapper$Circuit", "addInput", "()I"⟩ ⟨"CellMapper$Circuit", "addInput", "()I"⟩ ∈ cx_tb := cx_in1 (i := 293) (by decide +kernel) rfl
theorem cw_160 : Cond.methodLink "CellMapper" 76 ⟨"CellMapper", "afterAdding", "(I)I"⟩ ∈ cx_tb := cx_in1 (i := 311) (by decide +kernel) rfl
theorem cw_161 : Cond.instanceMethod ⟨"CellMapper", "afterAdding", "(I)I"⟩ ∈ cx_tb := cx_in1 (i := 313) (by decide +kernel) rfl
theorem cw_162 : Cond.selects "CellMapper" ⟨"CellMapper", "afterAdding", "(I)I"⟩ ⟨"CellMapper", "afterAdding", "(I)I"⟩ ∈ cx_tb := cx_in2 (i := 2) (by decide +kernel) rfl
theorem cw_163 : Cond.methodLink "CellMapper" 80 ⟨"CellMapper$Circuit", "addLatch", "(I)I"⟩ ∈ cx_tb := cx_in1 (i := 323) (by decide +kernel) rfl
theorem cw_164 : Cond.instanceMethod ⟨"CellMapper$Circuit", "addLatch", "(I)I"⟩ ∈ cx_tb := cx_in1 (i := 324) (by decide +kernel) rfl
theorem cw_165 : Cond.selects "CellMapper$Circuit" ⟨"CellMapper$Circuit", "addLatch", "(I)I"⟩ ⟨"CellMapper$Circuit", "addLatch", "(I)I"⟩ ∈ cx_tb := cx_in1 (i := 325) (by decide +kernel) rfl
theorem cw_166 : Cond.methodLink "CellMapper" 83 ⟨"CellMapper$Circuit", "countArguments", "(III)I"⟩ ∈ cx_tb := cx_in1 (i := 335) (by decide +kernel) rfl
theorem cw_167 : Cond.instanceMethod ⟨"CellMapper$Circuit", "countArguments", "(III)I"⟩ ∈ cx_tb := cx_in1 (i := 336) (by decide +kernel) rfl
theorem cw_168 : Cond.selects "CellMapper$Circuit" ⟨"CellMapper$Circuit", "countArguments", "(III)I"⟩ ⟨"CellMapper$Circuit", "countArguments", "(III)I"⟩ ∈ cx_tb := cx_in1 (i := 337) (by decide +kernel) rfl
theorem cw_169 : Cond.methodLink "CellMapper" 91 ⟨"CellMapper$Circuit", "addFunction", "(IIII)I"⟩ ∈ cx_tb := cx_in1 (i := 350) (by decide +kernel) rfl
theorem cw_170 : Cond.instanceMethod ⟨"CellMapper$Circuit", "addFunction", "(IIII)I"⟩ ∈ cx_tb := cx_in1 (i := 351) (by decide +kernel) rfl
theorem cw_171 : Cond.selects "CellMapper$Circuit" ⟨"CellMapper$Circuit", "addFunction", "(IIII)I"⟩ ⟨"CellMapper$Circuit", "addFunction", "(IIII)I"⟩ ∈ cx_tb := cx_in1 (i := 352) (by decide +kernel) rfl
theorem cw_172 : Cond.methodLink "CellMapper" 95 ⟨"CellMapper$Circuit", "setDriver", "(II)I"⟩ ∈ cx_tb := cx_in1 (i := 391) (by decide +kernel) rfl
theorem cw_173 : Cond.instanceMethod ⟨"CellMapper$Circuit", "setDriver", "(II)I"⟩ ∈ cx_tb := cx_in1 (i := 392) (by decide +kernel) rfl
theorem cw_174 : Cond.selects "CellMapper$Circuit" ⟨"CellMapper$Circuit", "setDriver", "(II)I"⟩ ⟨"CellMapper$Circuit", "setDriver", "(II)I"⟩ ∈ cx_tb := cx_in1 (i := 393) (by decide +kernel) rfl
theorem cw_175 : Cond.methodLink "CellMapper" 99 ⟨"CellMapper$Circuit", "addOutput", "(I)I"⟩ ∈ cx_tb := cx_in1 (i := 399) (by decide +kernel) rfl
theorem cw_176 : Cond.instanceMethod ⟨"CellMapper$Circuit", "addOutput", "(I)I"⟩ ∈ cx_tb := cx_in1 (i := 400) (by decide +kernel) rfl
theorem cw_177 : Cond.selects "CellMapper$Circuit" ⟨"CellMapper$Circuit", "addOutput", "(I)I"⟩ ⟨"CellMapper$Circuit", "addOutput", "(I)I"⟩ ∈ cx_tb := cx_in1 (i := 401) (by decide +kernel) rfl
theorem cw_178 : Cond.methodLink "CellMapper" 102 ⟨"CellMapper$Library", "addCell", "(III)I"⟩ ∈ cx_tb := cx_in1 (i := 407) (by decide +kernel) rfl
theorem cw_179 : Cond.instanceMethod ⟨"CellMapper$Library", "addCell", "(III)I"⟩ ∈ cx_tb := cx_in1 (i := 408) (by decide +kernel) rfl
theorem cw_180 : Cond.selects "CellMapper$Library" ⟨"CellMapper$Library", "addCell", "(III)I"⟩ ⟨"CellMapper$Library", "addCell", "(III)I"⟩ ∈ cx_tb := cx_in1 (i := 409) (by decide +kernel) rfl
theorem cw_181 : Cond.methodLink "CellMapper" 105 ⟨"CellMapper$Graph", "size", "()I"⟩ ∈ cx_tb := cx_in1 (i := 430) (by decide +kernel) rfl
theorem cw_182 : Cond.instanceMethod ⟨"CellMapper$Graph", "size", "()I"⟩ ∈ cx_tb := cx_in1 (i := 296) (by decide +kernel) rfl
theorem cw_183 : Cond.selects "CellMapper$Graph" ⟨"CellMapper$Graph", "size", "()I"⟩ ⟨"CellMapper$Graph", "size", "()I"⟩ ∈ cx_tb := cx_in1 (i := 297) (by decide +kernel) rfl
theorem cw_184 : Cond.methodLink "CellMapper" 108 ⟨"CellMapper$Circuit", "isNet", "(I)Z"⟩ ∈ cx_tb := cx_in1 (i := 435) (by decide +kernel) rfl
theorem cw_185 : Cond.instanceMethod ⟨"CellMapper$Circuit", "isNet", "(I)Z"⟩ ∈ cx_tb := cx_in1 (i := 340) (by decide +kernel) rfl
theorem cw_186 : Cond.selects "CellMapper$Circuit" ⟨"CellMapper$Circuit", "isNet", "(I)Z"⟩ ⟨"CellMapper$Circuit", "isNet", "(I)Z"⟩ ∈ cx_tb := cx_in1 (i := 341) (by decide +kernel) rfl
theorem cw_187 : Cond.methodLink "CellMapper" 112 ⟨"CellMapper$Circuit", "netNode", "(I)I"⟩ ∈ cx_tb := cx_in1 (i := 436) (by decide +kernel) rfl
theorem cw_188 : Cond.instanceMethod ⟨"CellMapper$Circuit", "netNode", "(I)I"⟩ ∈ cx_tb := cx_in1 (i := 437) (by decide +kernel) rfl
theorem cw_189 : Cond.selects "CellMapper$Circuit" ⟨"CellMapper$Circuit", "netNode", "(I)I"⟩ ⟨"CellMapper$Circuit", "netNode", "(I)I"⟩ ∈ cx_tb := cx_in1 (i := 438) (by decide +kernel) rfl
theorem cw_190 : Cond.methodLink "CellMapper" 115 ⟨"CellMapper$Graph", "isNode", "(I)Z"⟩ ∈ cx_tb := cx_in1 (i := 444) (by decide +kernel) rfl
theorem cw_191 : Cond.instanceMethod ⟨"CellMapper$Graph", "isNode", "(I)Z"⟩ ∈ cx_tb := cx_in1 (i := 445) (by decide +kernel) rfl
theorem cw_192 : Cond.selects "CellMapper$Graph" ⟨"CellMapper$Graph", "isNode", "(I)Z"⟩ ⟨"CellMapper$Graph", "isNode", "(I)Z"⟩ ∈ cx_tb := cx_in1 (i := 446) (by decide +kernel) rfl
theorem cw_193 : Cond.methodLink "CellMapper" 118 ⟨"CellMapper$Graph", "x", "(I)I"⟩ ∈ cx_tb := cx_in1 (i := 448) (by decide +kernel) rfl
theorem cw_194 : Cond.instanceMethod ⟨"CellMapper$Graph", "x", "(I)I"⟩ ∈ cx_tb := cx_in1 (i := 449) (by decide +kernel) rfl
theorem cw_195 : Cond.selects "CellMapper$Graph" ⟨"CellMapper$Graph", "x", "(I)I"⟩ ⟨"CellMapper$Graph", "x", "(I)I"⟩ ∈ cx_tb := cx_in1 (i := 450) (by decide +kernel) rfl
theorem cw_196 : Cond.methodLink "CellMapper" 121 ⟨"CellMapper$Graph", "y", "(I)I"⟩ ∈ cx_tb := cx_in1 (i := 452) (by decide +kernel) rfl
theorem cw_197 : Cond.instanceMethod ⟨"CellMapper$Graph", "y", "(I)I"⟩ ∈ cx_tb := cx_in1 (i := 453) (by decide +kernel) rfl
theorem cw_198 : Cond.selects "CellMapper$Graph" ⟨"CellMapper$Graph", "y", "(I)I"⟩ ⟨"CellMapper$Graph", "y", "(I)I"⟩ ∈ cx_tb := cx_in1 (i := 454) (by decide +kernel) rfl
theorem cw_199 : Cond.methodLink "CellMapper" 124 ⟨"CellMapper$Circuit", "hasUndrivenLatch", "()Z"⟩ ∈ cx_tb := cx_in1 (i := 460) (by decide +kernel) rfl
theorem cw_200 : Cond.instanceMethod ⟨"CellMapper$Circuit", "hasUndrivenLatch", "()Z"⟩ ∈ cx_tb := cx_in1 (i := 461) (by decide +kernel) rfl
theorem cw_201 : Cond.selects "CellMapper$Circuit" ⟨"CellMapper$Circuit", "hasUndrivenLatch", "()Z"⟩ ⟨"CellMapper$Circuit", "hasUndrivenLatch", "()Z"⟩ ∈ cx_tb := cx_in1 (i := 462) (by decide +kernel) rfl
theorem cw_202 : Cond.methodLink "CellMapper" 128 ⟨"CellMapper$Circuit", "hasLatchRing", "()Z"⟩ ∈ cx_tb := cx_in1 (i := 464) (by decide +kernel) rfl
theorem cw_203 : Cond.instanceMethod ⟨"CellMapper$Circuit", "hasLatchRing", "()Z"⟩ ∈ cx_tb := cx_in1 (i := 465) (by decide +kernel) rfl
theorem cw_204 : Cond.selects "CellMapper$Circuit" ⟨"CellMapper$Circuit", "hasLatchRing", "()Z"⟩ ⟨"CellMapper$Circuit", "hasLatchRing", "()Z"⟩ ∈ cx_tb := cx_in1 (i := 466) (by decide +kernel) rfl
theorem cw_205 : Cond.methodLink "CellMapper" 131 ⟨"CellMapper$Library", "coversEveryNode", "()Z"⟩ ∈ cx_tb := cx_in1 (i := 480) (by decide +kernel) rfl
theorem cw_206 : Cond.instanceMethod ⟨"CellMapper$Library", "coversEveryNode", "()Z"⟩ ∈ cx_tb := cx_in1 (i := 481) (by decide +kernel) rfl
theorem cw_207 : Cond.selects "CellMapper$Library" ⟨"CellMapper$Library", "coversEveryNode", "()Z"⟩ ⟨"CellMapper$Library", "coversEveryNode", "()Z"⟩ ∈ cx_tb := cx_in1 (i := 482) (by decide +kernel) rfl
theorem cw_208 : Cond.methodLink "CellMapper" 134 ⟨"CellMapper$Cover", "choose", "()V"⟩ ∈ cx_tb := cx_in1 (i := 488) (by decide +kernel) rfl
theorem cw_209 : Cond.instanceMethod ⟨"CellMapper$Cover", "choose", "()V"⟩ ∈ cx_tb := cx_in1 (i := 489) (by decide +kernel) rfl
theorem cw_210 : Cond.selects "CellMapper$Cover" ⟨"CellMapper$Cover", "choose", "()V"⟩ ⟨"CellMapper$Cover", "choose", "()V"⟩ ∈ cx_tb := cx_in1 (i := 490) (by decide +kernel) rfl
theorem cw_211 : Cond.methodLink "CellMapper" 137 ⟨"CellMapper$Connections", "connect", "()V"⟩ ∈ cx_tb := cx_in1 (i := 597) (by decide +kernel) rfl
theorem cw_212 : Cond.instanceMethod ⟨"CellMapper$Connections", "connect", "()V"⟩ ∈ cx_tb := cx_in1 (i := 598) (by decide +kernel) rfl
theorem cw_213 : Cond.selects "CellMapper$Connections" ⟨"CellMapper$Connections", "connect", "()V"⟩ ⟨"CellMapper$Connections", "connect", "()V"⟩ ∈ cx_tb := cx_in1 (i := 599) (by decide +kernel) rfl
theorem cw_214 : Cond.methodLink "CellMapper" 140 ⟨"CellMapper$Retiming", "shorten", "()V"⟩ ∈ cx_tb := cx_in1 (i := 628) (by decide +kernel) rfl
theorem cw_215 : Cond.instanceMethod ⟨"CellMapper$Retiming", "shorten", "()V"⟩ ∈ cx_tb := cx_in1 (i := 629) (by decide +kernel) rfl
theorem cw_216 : Cond.selects "CellMapper$Retiming" ⟨"CellMapper$Retiming", "shorten", "()V"⟩ ⟨"CellMapper$Retiming", "shorten", "()V"⟩ ∈ cx_tb := cx_in1 (i := 630) (by decide +kernel) rfl
theorem cw_217 : Cond.methodLink "CellMapper" 143 ⟨"CellMapper$Machine", "arrange", "()V"⟩ ∈ cx_tb := cx_in1 (i := 722) (by decide +kernel) rfl
theorem cw_218 : Cond.instanceMethod ⟨"CellMapper$Machine", "arrange", "()V"⟩ ∈ cx_tb := cx_in1 (i := 723) (by decide +kernel) rfl
theorem cw_219 : Cond.selects "CellMapper$Machine" ⟨"CellMapper$Machine", "arrange", "()V"⟩ ⟨"CellMapper$Machine", "arrange", "()V"⟩ ∈ cx_tb := cx_in1 (i := 724) (by decide +kernel) rfl
theorem cw_220 : Cond.methodLink "CellMapper" 146 ⟨"CellMapper$Machine", "restart", "()V"⟩ ∈ cx_tb := cx_in1 (i := 737) (by decide +kernel) rfl
theorem cw_221 : Cond.instanceMethod ⟨"CellMapper$Machine", "restart", "()V"⟩ ∈ cx_tb := cx_in1 (i := 738) (by decide +kernel) rfl
theorem cw_222 : Cond.selects "CellMapper$Machine" ⟨"CellMapper$Machine", "restart", "()V"⟩ ⟨"CellMapper$Machine", "restart", "()V"⟩ ∈ cx_tb := cx_in1 (i := 739) (by decide +kernel) rfl
theorem cw_223 : Cond.methodLink "CellMapper" 149 ⟨"CellMapper$Cover", "gateCount", "()I"⟩ ∈ cx_tb := cx_in1 (i := 746) (by decide +kernel) rfl
theorem cw_224 : Cond.instanceMethod ⟨"CellMapper$Cover", "gateCount", "()I"⟩ ∈ cx_tb := cx_in1 (i := 602) (by decide +kernel) rfl
theorem cw_225 : Cond.selects "CellMapper$Cover" ⟨"CellMapper$Cover", "gateCount", "()I"⟩ ⟨"CellMapper$Cover", "gateCount", "()I"⟩ ∈ cx_tb := cx_in1 (i := 603) (by decide +kernel) rfl
theorem cw_226 : Cond.methodLink "CellMapper" 152 ⟨"CellMapper$Cover", "totalArea", "()I"⟩ ∈ cx_tb := cx_in1 (i := 751) (by decide +kernel) rfl
theorem cw_227 : Cond.instanceMethod ⟨"CellMapper$Cover", "totalArea", "()I"⟩ ∈ cx_tb := cx_in1 (i := 752) (by decide +kernel) rfl
theorem cw_228 : Cond.selects "CellMapper$Cover" ⟨"CellMapper$Cover", "totalArea", "()I"⟩ ⟨"CellMapper$Cover", "totalArea", "()I"⟩ ∈ cx_tb := cx_in1 (i := 753) (by decide +kernel) rfl
theorem cw_229 : Cond.methodLink "CellMapper" 155 ⟨"CellMapper$Cover", "isGate", "(I)Z"⟩ ∈ cx_tb := cx_in1 (i := 759) (by decide +kernel) rfl
theorem cw_230 : Cond.instanceMethod ⟨"CellMapper$Cover", "isGate", "(I)Z"⟩ ∈ cx_tb := cx_in1 (i := 664) (by decide +kernel) rfl
theorem cw_231 : Cond.selects "CellMapper$Cover" ⟨"CellMapper$Cover", "isGate", "(I)Z"⟩ ⟨"CellMapper$Cover", "isGate", "(I)Z"⟩ ∈ cx_tb := cx_in1 (i := 665) (by decide +kernel) rfl
theorem cw_232 : Cond.methodLink "CellMapper" 158 ⟨"CellMapper$Cover", "gateCell", "(I)I"⟩ ∈ cx_tb := cx_in1 (i := 760) (by decide +kernel) rfl
theorem cw_233 : Cond.instanceMethod ⟨"CellMapper$Cover", "gateCell", "(I)I"⟩ ∈ cx_tb := cx_in1 (i := 761) (by decide +kernel) rfl
theorem cw_234 : Cond.selects "CellMapper$Cover" ⟨"CellMapper$Cover", "gateCell", "(I)I"⟩ ⟨"CellMapper$Cover", "gateCell", "(I)I"⟩ ∈ cx_tb := cx_in1 (i := 762) (by decide +kernel) rfl
theorem cw_235 : Cond.methodLink "CellMapper" 161 ⟨"CellMapper$Retiming", "periodBefore", "()I"⟩ ∈ cx_tb := cx_in1 (i := 768) (by decide +kernel) rfl
theorem cw_236 : Cond.instanceMethod ⟨"CellMapper$Retiming", "periodBefore", "()I"⟩ ∈ cx_tb := cx_in1 (i := 769) (by decide +kernel) rfl
theorem cw_237 : Cond.selects "CellMapper$Retiming" ⟨"CellMapper$Retiming", "periodBefore", "()I"⟩ ⟨"CellMapper$Retiming", "periodBefore", "()I"⟩ ∈ cx_tb := cx_in1 (i := 770) (by decide +kernel) rfl
theorem cw_238 : Cond.methodLink "CellMapper" 164 ⟨"CellMapper$Retiming", "periodAfter", "()I"⟩ ∈ cx_tb := cx_in1 (i := 776) (by decide +kernel) rfl
theorem cw_239 : Cond.instanceMethod ⟨"CellMapper$Retiming", "periodAfter", "()I"⟩ ∈ cx_tb := cx_in1 (i := 777) (by decide +kernel) rfl
theorem cw_240 : Cond.selects "CellMapper$Retiming" ⟨"CellMapper$Retiming", "periodAfter", "()I"⟩ ⟨"CellMapper$Retiming", "periodAfter", "()I"⟩ ∈ cx_tb := cx_in1 (i := 778) (by decide +kernel) rfl
theorem cw_241 : Cond.methodLink "CellMapper" 167 ⟨"CellMapper$Retiming", "movesAt", "(I)I"⟩ ∈ cx_tb := cx_in1 (i := 784) (by decide +kernel) rfl
theorem cw_242 : Cond.instanceMethod ⟨"CellMapper$Retiming", "movesAt", "(I)I"⟩ ∈ cx_tb := cx_in1 (i := 785) (by decide +kernel) rfl
theorem cw_243 : Cond.selects "CellMapper$Retiming" ⟨"CellMapper$Retiming", "movesAt", "(I)I"⟩ ⟨"CellMapper$Retiming", "movesAt", "(I)I"⟩ ∈ cx_tb := cx_in1 (i := 786) (by decide +kernel) rfl
theorem cw_244 : Cond.methodLink "CellMapper" 172 ⟨"CellMapper", "connectionOf", "(II)I"⟩ ∈ cx_tb := cx_in1 (i := 793) (by decide +kernel) rfl
theorem cw_245 : Cond.instanceMethod ⟨"CellMapper", "connectionOf", "(II)I"⟩ ∈ cx_tb := cx_in1 (i := 795) (by decide +kernel) rfl
theorem cw_246 : Cond.selects "CellMapper" ⟨"CellMapper", "connectionOf", "(II)I"⟩ ⟨"CellMapper", "connectionOf", "(II)I"⟩ ∈ cx_tb := cx_in2 (i := 29) (by decide +kernel) rfl
theorem cw_247 : Cond.methodLink "CellMapper" 177 ⟨"CellMapper$Connections", "describe", "(I)J"⟩ ∈ cx_tb := cx_in1 (i := 808) (by decide +kernel) rfl
theorem cw_248 : Cond.instanceMethod ⟨"CellMapper$Connections", "describe", "(I)J"⟩ ∈ cx_tb := cx_in1 (i := 809) (by decide +kernel) rfl
theorem cw_249 : Cond.selects "CellMapper$Connections" ⟨"CellMapper$Connections", "describe", "(I)J"⟩ ⟨"CellMapper$Connections", "describe", "(I)J"⟩ ∈ cx_tb := cx_in1 (i := 810) (by decide +kernel) rfl
theorem cw_250 : Cond.methodLink "CellMapper" 181 ⟨"CellMapper$Circuit", "runCycle", "(I)I"⟩ ∈ cx_tb := cx_in1 (i := 817) (by decide +kernel) rfl
theorem cw_251 : Cond.instanceMethod ⟨"CellMapper$Circuit", "runCycle", "(I)I"⟩ ∈ cx_tb := cx_in1 (i := 818) (by decide +kernel) rfl
theorem cw_252 : Cond.selects "CellMapper$Circuit" ⟨"CellMapper$Circuit", "runCycle", "(I)I"⟩ ⟨"CellMapper$Circuit", "runCycle", "(I)I"⟩ ∈ cx_tb := cx_in1 (i := 819) (by decide +kernel) rfl
theorem cw_253 : Cond.methodLink "CellMapper" 184 ⟨"CellMapper$Machine", "runCycle", "(I)I"⟩ ∈ cx_tb := cx_in1 (i := 837) (by decide +kernel) rfl
theorem cw_254 : Cond.instanceMethod ⟨"CellMapper$Machine", "runCycle", "(I)I"⟩ ∈ cx_tb := cx_in1 (i := 838) (by decide +kernel) rfl
theorem cw_255 : Cond.selects "CellMapper$Machine" ⟨"CellMapper$Machine", "runCycle", "(I)I"⟩ ⟨"CellMapper$Machine", "runCycle", "(I)I"⟩ ∈ cx_tb := cx_in1 (i := 839) (by decide +kernel) rfl
theorem cw_256 : Cond.methodLink "CellMapper" 185 ⟨"CellMapper$Circuit", "restart", "()V"⟩ ∈ cx_tb := cx_in1 (i := 315) (by decide +kernel) rfl
theorem cw_257 : Cond.instanceMethod ⟨"CellMapper$Circuit", "restart", "()V"⟩ ∈ cx_tb := cx_in1 (i := 316) (by decide +kernel) rfl
theorem cw_258 : Cond.selects "CellMapper$Circuit" ⟨"CellMapper$Circuit", "restart", "()V"⟩ ⟨"CellMapper$Circuit", "restart", "()V"⟩ ∈ cx_tb := cx_in1 (i := 317) (by decide +kernel) rfl
theorem cw_259 : Cond.methodLink "CellMapper" 186 ⟨"CellMapper$Circuit", "isOutput", "(I)Z"⟩ ∈ cx_tb := cx_in1 (i := 797) (by decide +kernel) rfl
theorem cw_260 : Cond.instanceMethod ⟨"CellMapper$Circuit", "isOutput", "(I)Z"⟩ ∈ cx_tb := cx_in1 (i := 798) (by decide +kernel) rfl
theorem cw_261 : Cond.selects "CellMapper$Circuit" ⟨"CellMapper$Circuit", "isOutput", "(I)Z"⟩ ⟨"CellMapper$Circuit", "isOutput", "(I)Z"⟩ ∈ cx_tb := cx_in1 (i := 799) (by decide +kernel) rfl
theorem cw_262 : Cond.methodLink "CellMapper" 189 ⟨"CellMapper$Connections", "ofOutput", "(I)I"⟩ ∈ cx_tb := cx_in1 (i := 801) (by decide +kernel) rfl
theorem cw_263 : Cond.instanceMethod ⟨"CellMapper$Connections", "ofOutput", "(I)I"⟩ ∈ cx_tb := cx_in1 (i := 802) (by decide +kernel) rfl
theorem cw_264 : Cond.selects "CellMapper$Connections" ⟨"CellMapper$Connections", "ofOutput", "(I)I"⟩ ⟨"CellMapper$Connections", "ofOutput", "(I)I"⟩ ∈ cx_tb := cx_in1 (i := 803) (by decide +kernel) rfl
theorem cw_265 : Cond.methodLink "CellMapper" 192 ⟨"CellMapper$Cover", "gatePins", "(I)I"⟩ ∈ cx_tb := cx_in1 (i := 805) (by decide +kernel) rfl
theorem cw_266 : Cond.instanceMethod ⟨"CellMapper$Cover", "gatePins", "(I)I"⟩ ∈ cx_tb := cx_in1 (i := 586) (by decide +kernel) rfl
theorem cw_267 : Cond.selects "CellMapper$Cover" ⟨"CellMapper$Cover", "gatePins", "(I)I"⟩ ⟨"CellMapper$Cover", "gatePins", "(I)I"⟩ ∈ cx_tb := cx_in1 (i := 587) (by decide +kernel) rfl
theorem cw_268 : Cond.methodLink "CellMapper" 195 ⟨"CellMapper$Connections", "ofGate", "(I)I"⟩ ∈ cx_tb := cx_in1 (i := 806) (by decide +kernel) rfl
theorem cw_269 : Cond.instanceMethod ⟨"CellMapper$Connections", "ofGate", "(I)I"⟩ ∈ cx_tb := cx_in1 (i := 698) (by decide +kernel) rfl
theorem cw_270 : Cond.selects "CellMapper$Connections" ⟨"CellMapper$Connections", "ofGate", "(I)I"⟩ ⟨"CellMapper$Connections", "ofGate", "(I)I"⟩ ∈ cx_tb := cx_in1 (i := 699) (by decide +kernel) rfl
theorem cw_271 : Cond.methodLink "CellMapper$Graph" 28 ⟨"CellMapper$Graph", "make", "(III)I"⟩ ∈ cx_tb := cx_in1 (i := 303) (by decide +kernel) rfl
theorem cw_272 : Cond.instanceMethod ⟨"CellMapper$Graph", "make", "(III)I"⟩ ∈ cx_tb := cx_in1 (i := 305) (by decide +kernel) rfl
theorem cw_273 : Cond.selects "CellMapper$Graph" ⟨"CellMapper$Graph", "make", "(III)I"⟩ ⟨"CellMapper$Graph", "make", "(III)I"⟩ ∈ cx_tb := cx_in2 (i := 0) (by decide +kernel) rfl
theorem cw_274 : Cond.methodLink "CellMapper$Graph" 32 ⟨"CellMapper$Graph", "isInv", "(I)Z"⟩ ∈ cx_tb := cx_in1 (i := 368) (by decide +kernel) rfl
theorem cw_275 : Cond.instanceMethod ⟨"CellMapper$Graph", "isInv", "(I)Z"⟩ ∈ cx_tb := cx_in1 (i := 369) (by decide +kernel) rfl
theorem cw_276 : Cond.selects "CellMapper$Graph" ⟨"CellMapper$Graph", "isInv", "(I)Z"⟩ ⟨"CellMapper$Graph", "isInv", "(I)Z"⟩ ∈ cx_tb := cx_in1 (i := 370) (by decide +kernel) rfl
theorem cw_277 : Cond.methodLink "CellMapper$Graph" 36 ⟨"CellMapper$Graph", "findOrMake", "(III)I"⟩ ∈ cx_tb := cx_in1 (i := 372) (by decide +kernel) rfl
theorem cw_278 : Cond.instanceMethod ⟨"CellMapper$Graph", "findOrMake", "(III)I"⟩ ∈ cx_tb := cx_in1 (i := 374) (by decide +kernel) rfl
theorem cw_279 : Cond.selects "CellMapper$Graph" ⟨"CellMapper$Graph", "findOrMake", "(III)I"⟩ ⟨"CellMapper$Graph", "findOrMake", "(III)I"⟩ ∈ cx_tb := cx_in2 (i := 4) (by decide +kernel) rfl
theorem cw_280 : Cond.methodLink "CellMapper$Graph" 39 ⟨"CellMapper$Graph", "inv", "(I)I"⟩ ∈ cx_tb := cx_in1 (i := 380) (by decide +kernel) rfl
theorem cw_281 : Cond.instanceMethod ⟨"CellMapper$Graph", "inv", "(I)I"⟩ ∈ cx_tb := cx_in1 (i := 365) (by decide +kernel) rfl
theorem cw_282 : Cond.selects "CellMapper$Graph" ⟨"CellMapper$Graph", "inv", "(I)I"⟩ ⟨"CellMapper$Graph", "inv", "(I)I"⟩ ∈ cx_tb := cx_in1 (i := 366) (by decide +kernel) rfl
theorem cw_283 : Cond.methodLink "CellMapper$Circuit" 50 ⟨"CellMapper$Graph", "size", "()I"⟩ ∈ cx_tb := cx_in1 (i := 295) (by decide +kernel) rfl
theorem cw_284 : Cond.methodLink "CellMapper$Circuit" 56 ⟨"CellMapper$Graph", "makeInput", "(I)I"⟩ ∈ cx_tb := cx_in1 (i := 299) (by decide +kernel) rfl
theorem cw_285 : Cond.instanceMethod ⟨"CellMapper$Graph", "makeInput", "(I)I"⟩ ∈ cx_tb := cx_in1 (i := 300) (by decide +kernel) rfl
theorem cw_286 : Cond.selects "CellMapper$Graph" ⟨"CellMapper$Graph", "makeInput", "(I)I"⟩ ⟨"CellMapper$Graph", "makeInput", "(I)I"⟩ ∈ cx_tb := cx_in1 (i := 301) (by decide +kernel) rfl
theorem cw_287 : Cond.methodLink "CellMapper$Circuit" 60 ⟨"CellMapper$Circuit", "addNet", "(II)I"⟩ ∈ cx_tb := cx_in1 (i := 307) (by decide +kernel) rfl
theorem cw_288 : Cond.instanceMethod ⟨"CellMapper$Circuit", "addNet", "(II)I"⟩ ∈ cx_tb := cx_in1 (i := 309) (by decide +kernel) rfl
theorem cw_289 : Cond.selects "CellMapper$Circuit" ⟨"CellMapper$Circuit", "addNet", "(II)I"⟩ ⟨"CellMapper$Circuit", "addNet", "(II)I"⟩ ∈ cx_tb := cx_in2 (i := 1) (by decide +kernel) rfl
theorem cw_290 : Cond.methodLink "CellMapper$Circuit" 64 ⟨"CellMapper$Graph", "makeLatch", "(I)I"⟩ ∈ cx_tb := cx_in1 (i := 327) (by decide +kernel) rfl
theorem cw_291 : Cond.instanceMethod ⟨"CellMapper$Graph", "makeLatch", "(I)I"⟩ ∈ cx_tb := cx_in1 (i := 328) (by decide +kernel) rfl
theorem cw_292 : Cond.selects "CellMapper$Graph" ⟨"CellMapper$Graph", "makeLatch", "(I)I"⟩ ⟨"CellMapper$Graph", "makeLatch", "(I)I"⟩ ∈ cx_tb := cx_in1 (i := 329) (by decide +kernel) rfl
theorem cw_293 : Cond.methodLink "CellMapper$Circuit" 67 ⟨"CellMapper$Circuit", "isNet", "(I)Z"⟩ ∈ cx_tb := cx_in1 (i := 339) (by decide +kernel) rfl
theorem cw_294 : Cond.methodLink "CellMapper$Circuit" 71 ⟨"CellMapper$Circuit", "isNetOrNone", "(I)Z"⟩ ∈ cx_tb := cx_in1 (i := 343) (by decide +kernel) rfl
theorem cw_295 : Cond.instanceMethod ⟨"CellMapper$Circuit", "isNetOrNone", "(I)Z"⟩ ∈ cx_tb := cx_in1 (i := 345) (by decide +kernel) rfl
theorem cw_296 : Cond.selects "CellMapper$Circuit" ⟨"CellMapper$Circuit", "isNetOrNone", "(I)Z"⟩ ⟨"CellMapper$Circuit", "isNetOrNone", "(I)Z"⟩ ∈ cx_tb := cx_in2 (i := 3) (by decide +kernel) rfl
theorem cw_297 : Cond.methodLink "CellMapper$Circuit" 74 ⟨"CellMapper$Circuit", "countArguments", "(III)I"⟩ ∈ cx_tb := cx_in1 (i := 354) (by decide +kernel) rfl
theorem cw_298 : Cond.methodLink "CellMapper$Circuit" 82 ⟨"CellMapper$Circuit", "drivingNode", "(I)I"⟩ ∈ cx_tb := cx_in1 (i := 468) (by decide +kernel) rfl
theorem cw_299 : Cond.instanceMethod ⟨"CellMapper$Circuit", "drivingNode", "(I)I"⟩ ∈ cx_tb := cx_in1 (i := 469) (by decide +kernel) rfl
theorem cw_300 : Cond.selects "CellMapper$Circuit" ⟨"CellMapper$Circuit", "drivingNode", "(I)I"⟩ ⟨"CellMapper$Circuit", "drivingNode", "(I)I"⟩ ∈ cx_tb := cx_in1 (i := 470) (by decide +kernel) rfl
theorem cw_301 : Cond.methodLink "CellMapper$Circuit" 85 ⟨"CellMapper$Graph", "isLatch", "(I)Z"⟩ ∈ cx_tb := cx_in1 (i := 472) (by decide +kernel) rfl
theorem cw_302 : Cond.instanceMethod ⟨"CellMapper$Graph", "isLatch", "(I)Z"⟩ ∈ cx_tb := cx_in1 (i := 473) (by decide +kernel) rfl
theorem cw_303 : Cond.selects "CellMapper$Graph" ⟨"CellMapper$Graph", "isLatch", "(I)Z"⟩ ⟨"CellMapper$Graph", "isLatch", "(I)Z"⟩ ∈ cx_tb := cx_in1 (i := 474) (by decide +kernel) rfl
theorem cw_304 : Cond.methodLink "CellMapper$Circuit" 88 ⟨"CellMapper$Graph", "ordinal", "(I)I"⟩ ∈ cx_tb := cx_in1 (i := 476) (by decide +kernel) rfl
theorem cw_305 : Cond.instanceMethod ⟨"CellMapper$Graph", "ordinal", "(I)I"⟩ ∈ cx_tb := cx_in1 (i := 477) (by decide +kernel) rfl
theorem cw_306 : Cond.selects "CellMapper$Graph" ⟨"CellMapper$Graph", "ordinal", "(I)I"⟩ ⟨"CellMapper$Graph", "ordinal", "(I)I"⟩ ∈ cx_tb := cx_in1 (i := 478) (by decide +kernel) rfl
theorem cw_307 : Cond.methodLink "CellMapper$Circuit" 94 ⟨"CellMapper$Circuit", "nodeValue", "(II)I"⟩ ∈ cx_tb := cx_in1 (i := 821) (by decide +kernel) rfl
theorem cw_308 : Cond.instanceMethod ⟨"CellMapper$Circuit", "nodeValue", "(II)I"⟩ ∈ cx_tb := cx_in1 (i := 823) (by decide +kernel) rfl
theorem cw_309 : Cond.selects "CellMapper$Circuit" ⟨"CellMapper$Circuit", "nodeValue", "(II)I"⟩ ⟨"CellMapper$Circuit", "nodeValue", "(II)I"⟩ ∈ cx_tb := cx_in2 (i := 30) (by decide +kernel) rfl
theorem cw_310 : Cond.methodLink "CellMapper$Circuit" 97 ⟨"CellMapper$Circuit", "outputNode", "(I)I"⟩ ∈ cx_tb := cx_in1 (i := 832) (by decide +kernel) rfl
theorem cw_311 : Cond.instanceMethod ⟨"CellMapper$Circuit", "outputNode", "(I)I"⟩ ∈ cx_tb := cx_in1 (i := 501) (by decide +kernel) rfl
theorem cw_312 : Cond.selects "CellMapper$Circuit" ⟨"CellMapper$Circuit", "outputNode", "(I)I"⟩ ⟨"CellMapper$Circuit", "outputNode", "(I)I"⟩ ∈ cx_tb := cx_in1 (i := 502) (by decide +kernel) rfl
theorem cw_313 : Cond.methodLink "CellMapper$Circuit" 100 ⟨"CellMapper$Graph", "isInput", "(I)Z"⟩ ∈ cx_tb := cx_in1 (i := 825) (by decide +kernel) rfl
theorem cw_314 : Cond.instanceMethod ⟨"CellMapper$Graph", "isInput", "(I)Z"⟩ ∈ cx_tb := cx_in1 (i := 826) (by decide +kernel) rfl
theorem cw_315 : Cond.selects "CellMapper$Graph" ⟨"CellMapper$Graph", "isInput", "(I)Z"⟩ ⟨"CellMapper$Graph", "isInput", "(I)Z"⟩ ∈ cx_tb := cx_in1 (i := 827) (by decide +kernel) rfl
theorem cw_316 : Cond.methodLink "CellMapper$Circuit" 103 ⟨"CellMapper$Graph", "x", "(I)I"⟩ ∈ cx_tb := cx_in1 (i := 829) (by decide +kernel) rfl
theorem cw_317 : Cond.methodLink "CellMapper$Circuit" 106 ⟨"CellMapper$Graph", "isInv", "(I)Z"⟩ ∈ cx_tb := cx_in1 (i := 830) (by decide +kernel) rfl
theorem cw_318 : Cond.methodLink "CellMapper$Circuit" 109 ⟨"CellMapper$Graph", "y", "(I)I"⟩ ∈ cx_tb := cx_in1 (i := 831) (by decide +kernel) rfl
theorem cw_319 : Cond.methodLink "CellMapper$Circuit" 120 ⟨"CellMapper$Graph", "inv", "(I)I"⟩ ∈ cx_tb := cx_in1 (i := 364) (by decide +kernel) rfl
theorem cw_320 : Cond.methodLink "CellMapper$Circuit" 123 ⟨"CellMapper$Graph", "nand", "(II)I"⟩ ∈ cx_tb := cx_in1 (i := 376) (by decide +kernel) rfl
theorem cw_321 : Cond.instanceMethod ⟨"CellMapper$Graph", "nand", "(II)I"⟩ ∈ cx_tb := cx_in1 (i := 377) (by decide +kernel) rfl
theorem cw_322 : Cond.selects "CellMapper$Graph" ⟨"CellMapper$Graph", "nand", "(II)I"⟩ ⟨"CellMapper$Graph", "nand", "(II)I"⟩ ∈ cx_tb := cx_in1 (i := 378) (by decide +kernel) rfl
theorem cw_323 : Cond.methodLink "CellMapper$Library" 38 ⟨"CellMapper$Library", "hasPattern", "(I)Z"⟩ ∈ cx_tb := cx_in1 (i := 484) (by decide +kernel) rfl
theorem cw_324 : Cond.instanceMethod ⟨"CellMapper$Library", "hasPattern", "(I)Z"⟩ ∈ cx_tb := cx_in1 (i := 486) (by decide +kernel) rfl
theorem cw_325 : Cond.selects "CellMapper$Library" ⟨"CellMapper$Library", "hasPattern", "(I)Z"⟩ ⟨"CellMapper$Library", "hasPattern", "(I)Z"⟩ ∈ cx_tb := cx_in2 (i := 5) (by decide +kernel) rfl
theorem cw_326 : Cond.methodLink "CellMapper$Cover" 56 ⟨"CellMapper$Graph", "isNode", "(I)Z"⟩ ∈ cx_tb := cx_in1 (i := 580) (by decide +kernel) rfl
theorem cw_327 : Cond.methodLink "CellMapper$Cover" 62 ⟨"CellMapper$Library", "pins", "(I)I"⟩ ∈ cx_tb := cx_in1 (i := 569) (by decide +kernel) rfl
theorem cw_328 : Cond.instanceMethod ⟨"CellMapper$Library", "pins", "(I)I"⟩ ∈ cx_tb := cx_in1 (i := 570) (by decide +kernel) rfl
theorem cw_329 : Cond.selects "CellMapper$Library" ⟨"CellMapper$Library", "pins", "(I)I"⟩ ⟨"CellMapper$Library", "pins", "(I)I"⟩ ∈ cx_tb := cx_in1 (i := 571) (by decide +kernel) rfl
theorem cw_330 : Cond.methodLink "CellMapper$Cover" 68 ⟨"CellMapper$Library", "delay", "(I)I"⟩ ∈ cx_tb := cx_in1 (i := 643) (by decide +kernel) rfl
theorem cw_331 : Cond.instanceMethod ⟨"CellMapper$Library", "delay", "(I)I"⟩ ∈ cx_tb := cx_in1 (i := 644) (by decide +kernel) rfl
theorem cw_332 : Cond.selects "CellMapper$Library" ⟨"CellMapper$Library", "delay", "(I)I"⟩ ⟨"CellMapper$Library", "delay", "(I)I"⟩ ∈ cx_tb := cx_in1 (i := 645) (by decide +kernel) rfl
theorem cw_333 : Cond.methodLink "CellMapper$Cover" 71 ⟨"CellMapper$Library", "value", "(II)I"⟩ ∈ cx_tb := cx_in1 (i := 714) (by decide +kernel) rfl
theorem cw_334 : Cond.instanceMethod ⟨"CellMapper$Library", "value", "(II)I"⟩ ∈ cx_tb := cx_in1 (i := 715) (by decide +kernel) rfl
theorem cw_335 : Cond.selects "CellMapper$Library" ⟨"CellMapper$Library", "value", "(II)I"⟩ ⟨"CellMapper$Library", "value", "(II)I"⟩ ∈ cx_tb := cx_in1 (i := 716) (by decide +kernel) rfl
theorem cw_336 : Cond.methodLink "CellMapper$Cover" 75 ⟨"CellMapper$Library", "cost", "(I)I"⟩ ∈ cx_tb := cx_in1 (i := 565) (by decide +kernel) rfl
theorem cw_337 : Cond.instanceMethod ⟨"CellMapper$Library", "cost", "(I)I"⟩ ∈ cx_tb := cx_in1 (i := 566) (by decide +kernel) rfl
theorem cw_338 : Cond.selects "CellMapper$Library" ⟨"CellMapper$Library", "cost", "(I)I"⟩ ⟨"CellMapper$Library", "cost", "(I)I"⟩ ∈ cx_tb := cx_in1 (i := 567) (by decide +kernel) rfl
theorem cw_339 : Cond.methodLink "CellMapper$Cover" 78 ⟨"CellMapper$Cover", "markNeeded", "()V"⟩ ∈ cx_tb := cx_in1 (i := 492) (by decide +kernel) rfl
theorem cw_340 : Cond.instanceMethod ⟨"CellMapper$Cover", "markNeeded", "()V"⟩ ∈ cx_tb := cx_in1 (i := 494) (by decide +kernel) rfl
theorem cw_341 : Cond.selects "CellMapper$Cover" ⟨"CellMapper$Cover", "markNeeded", "()V"⟩ ⟨"CellMapper$Cover", "markNeeded", "()V"⟩ ∈ cx_tb := cx_in2 (i := 6) (by decide +kernel) rfl
theorem cw_342 : Cond.methodLink "CellMapper$Cover" 81 ⟨"CellMapper$Cover", "countLiveUsers", "()V"⟩ ∈ cx_tb := cx_in1 (i := 509) (by decide +kernel) rfl
theorem cw_343 : Cond.instanceMethod ⟨"CellMapper$Cover", "countLiveUsers", "()V"⟩ ∈ cx_tb := cx_in1 (i := 511) (by decide +kernel) rfl
theorem cw_344 : Cond.selects "CellMapper$Cover" ⟨"CellMapper$Cover", "countLiveUsers", "()V"⟩ ⟨"CellMapper$Cover", "countLiveUsers", "()V"⟩ ∈ cx_tb := cx_in2 (i := 7) (by decide +kernel) rfl
theorem cw_345 : Cond.methodLink "CellMapper$Cover" 84 ⟨"CellMapper$Graph", "size", "()I"⟩ ∈ cx_tb := cx_in1 (i := 516) (by decide +kernel) rfl
theorem cw_346 : Cond.methodLink "CellMapper$Cover" 88 ⟨"CellMapper$Cover", "isLive", "(I)Z"⟩ ∈ cx_tb := cx_in1 (i := 517) (by decide +kernel) rfl
theorem cw_347 : Cond.instanceMethod ⟨"CellMapper$Cover", "isLive", "(I)Z"⟩ ∈ cx_tb := cx_in1 (i := 519) (by decide +kernel) rfl
theorem cw_348 : Cond.selects "CellMapper$Cover" ⟨"CellMapper$Cover", "isLive", "(I)Z"⟩ ⟨"CellMapper$Cover", "isLive", "(I)Z"⟩ ∈ cx_tb := cx_in2 (i := 8) (by decide +kernel) rfl
theorem cw_349 : Cond.methodLink "CellMapper$Cover" 91 ⟨"CellMapper$Graph", "isLogic", "(I)Z"⟩ ∈ cx_tb := cx_in1 (i := 521) (by decide +kernel) rfl
theorem cw_350 : Cond.instanceMethod ⟨"CellMapper$Graph", "isLogic", "(I)Z"⟩ ∈ cx_tb := cx_in1 (i := 522) (by decide +kernel) rfl
theorem cw_351 : Cond.selects "CellMapper$Graph" ⟨"CellMapper$Graph", "isLogic", "(I)Z"⟩ ⟨"CellMapper$Graph", "isLogic", "(I)Z"⟩ ∈ cx_tb := cx_in1 (i := 523) (by decide +kernel) rfl
theorem cw_352 : Cond.methodLink "CellMapper$Cover" 94 ⟨"CellMapper$Cover", "chooseAt", "(I)V"⟩ ∈ cx_tb := cx_in1 (i := 531) (by decide +kernel) rfl
theorem cw_353 : Cond.instanceMethod ⟨"CellMapper$Cover", "chooseAt", "(I)V"⟩ ∈ cx_tb := cx_in1 (i := 533) (by decide +kernel) rfl
theorem cw_354 : Cond.selects "CellMapper$Cover" ⟨"CellMapper$Cover", "chooseAt", "(I)V"⟩ ⟨"CellMapper$Cover", "chooseAt", "(I)V"⟩ ∈ cx_tb := cx_in2 (i := 9) (by decide +kernel) rfl
theorem cw_355 : Cond.methodLink "CellMapper$Cover" 98 ⟨"CellMapper$Cover", "markGates", "()V"⟩ ∈ cx_tb := cx_in1 (i := 576) (by decide +kernel) rfl
theorem cw_356 : Cond.instanceMethod ⟨"CellMapper$Cover", "markGates", "()V"⟩ ∈ cx_tb := cx_in1 (i := 578) (by decide +kernel) rfl
theorem cw_357 : Cond.selects "CellMapper$Cover" ⟨"CellMapper$Cover", "markGates", "()V"⟩ ⟨"CellMapper$Cover", "markGates", "()V"⟩ ∈ cx_tb := cx_in2 (i := 14) (by decide +kernel) rfl
theorem cw_358 : Cond.methodLink "CellMapper$Cover" 101 ⟨"CellMapper$Cover", "listGates", "()V"⟩ ∈ cx_tb := cx_in1 (i := 593) (by decide +kernel) rfl
theorem cw_359 : Cond.instanceMethod ⟨"CellMapper$Cover", "listGates", "()V"⟩ ∈ cx_tb := cx_in1 (i := 595) (by decide +kernel) rfl
theorem cw_360 : Cond.selects "CellMapper$Cover" ⟨"CellMapper$Cover", "listGates", "()V"⟩ ⟨"CellMapper$Cover", "listGates", "()V"⟩ ∈ cx_tb := cx_in2 (i := 16) (by decide +kernel) rfl
theorem cw_361 : Cond.methodLink "CellMapper$Cover" 104 ⟨"CellMapper$Circuit", "outputCount", "()I"⟩ ∈ cx_tb := cx_in1 (i := 496) (by decide +kernel) rfl
theorem cw_362 : Cond.instanceMethod ⟨"CellMapper$Circuit", "outputCount", "()I"⟩ ∈ cx_tb := cx_in1 (i := 497) (by decide +kernel) rfl
theorem cw_363 : Cond.selects "CellMapper$Circuit" ⟨"CellMapper$Circuit", "outputCount", "()I"⟩ ⟨"CellMapper$Circuit", "outputCount", "()I"⟩ ∈ cx_tb := cx_in1 (i := 498) (by decide +kernel) rfl
theorem cw_364 : Cond.methodLink "CellMapper$Cover" 109 ⟨"CellMapper$Circuit", "outputNode", "(I)I"⟩ ∈ cx_tb := cx_in1 (i := 500) (by decide +kernel) rfl
theorem cw_365 : Cond.methodLink "CellMapper$Cover" 112 ⟨"CellMapper$Circuit", "latchCount", "()I"⟩ ∈ cx_tb := cx_in1 (i := 504) (by decide +kernel) rfl
theorem cw_366 : Cond.instanceMethod ⟨"CellMapper$Circuit", "latchCount", "()I"⟩ ∈ cx_tb := cx_in1 (i := 505) (by decide +kernel) rfl
theorem cw_367 : Cond.selects "CellMapper$Circuit" ⟨"CellMapper$Circuit", "latchCount", "()I"⟩ ⟨"CellMapper$Circuit", "latchCount", "()I"⟩ ∈ cx_tb := cx_in1 (i := 506) (by decide +kernel) rfl
theorem cw_368 : Cond.methodLink "CellMapper$Cover" 115 ⟨"CellMapper$Circuit", "drivingNode", "(I)I"⟩ ∈ cx_tb := cx_in1 (i := 508) (by decide +kernel) rfl
theorem cw_369 : Cond.methodLink "CellMapper$Cover" 124 ⟨"CellMapper$Graph", "x", "(I)I"⟩ ∈ cx_tb := cx_in1 (i := 525) (by decide +kernel) rfl
theorem cw_370 : Cond.methodLink "CellMapper$Cover" 127 ⟨"CellMapper$Graph", "isNand", "(I)Z"⟩ ∈ cx_tb := cx_in1 (i := 526) (by decide +kernel) rfl
theorem cw_371 : Cond.instanceMethod ⟨"CellMapper$Graph", "isNand", "(I)Z"⟩ ∈ cx_tb := cx_in1 (i := 527) (by decide +kernel) rfl
theorem cw_372 : Cond.selects "CellMapper$Graph" ⟨"CellMapper$Graph", "isNand", "(I)Z"⟩ ⟨"CellMapper$Graph", "isNand", "(I)Z"⟩ ∈ cx_tb := cx_in1 (i := 528) (by decide +kernel) rfl
theorem cw_373 : Cond.methodLink "CellMapper$Cover" 130 ⟨"CellMapper$Graph", "y", "(I)I"⟩ ∈ cx_tb := cx_in1 (i := 530) (by decide +kernel) rfl
theorem cw_374 : Cond.methodLink "CellMapper$Cover" 134 ⟨"CellMapper$Library", "size", "()I"⟩ ∈ cx_tb := cx_in1 (i := 536) (by decide +kernel) rfl
theorem cw_375 : Cond.instanceMethod ⟨"CellMapper$Library", "size", "()I"⟩ ∈ cx_tb := cx_in1 (i := 537) (by decide +kernel) rfl
theorem cw_376 : Cond.selects "CellMapper$Library" ⟨"CellMapper$Library", "size", "()I"⟩ ⟨"CellMapper$Library", "size", "()I"⟩ ∈ cx_tb := cx_in1 (i := 538) (by decide +kernel) rfl
theorem cw_377 : Cond.methodLink "CellMapper$Cover" 135 ⟨"CellMapper$Library", "nands", "(I)I"⟩ ∈ cx_tb := cx_in1 (i := 540) (by decide +kernel) rfl
theorem cw_378 : Cond.instanceMethod ⟨"CellMapper$Library", "nands", "(I)I"⟩ ∈ cx_tb := cx_in1 (i := 541) (by decide +kernel) rfl
theorem cw_379 : Cond.selects "CellMapper$Library" ⟨"CellMapper$Library", "nands", "(I)I"⟩ ⟨"CellMapper$Library", "nands", "(I)I"⟩ ∈ cx_tb := cx_in1 (i := 542) (by decide +kernel) rfl
theorem cw_380 : Cond.methodLink "CellMapper$Cover" 138 ⟨"CellMapper$Cover", "lay", "(III)Z"⟩ ∈ cx_tb := cx_in1 (i := 544) (by decide +kernel) rfl
theorem cw_381 : Cond.instanceMethod ⟨"CellMapper$Cover", "lay", "(III)Z"⟩ ∈ cx_tb := cx_in1 (i := 546) (by decide +kernel) rfl
theorem cw_382 : Cond.selects "CellMapper$Cover" ⟨"CellMapper$Cover", "lay", "(III)Z"⟩ ⟨"CellMapper$Cover", "lay", "(III)Z"⟩ ∈ cx_tb := cx_in2 (i := 10) (by decide +kernel) rfl
theorem cw_383 : Cond.methodLink "CellMapper$Cover" 142 ⟨"CellMapper$Cover", "keepIfCheaper", "(II)V"⟩ ∈ cx_tb := cx_in1 (i := 557) (by decide +kernel) rfl
theorem cw_384 : Cond.instanceMethod ⟨"CellMapper$Cover", "keepIfCheaper", "(II)V"⟩ ∈ cx_tb := cx_in1 (i := 559) (by decide +kernel) rfl
theorem cw_385 : Cond.selects "CellMapper$Cover" ⟨"CellMapper$Cover", "keepIfCheaper", "(II)V"⟩ ⟨"CellMapper$Cover", "keepIfCheaper", "(II)V"⟩ ∈ cx_tb := cx_in2 (i := 12) (by decide +kernel) rfl
theorem cw_386 : Cond.methodLink "CellMapper$Cover" 146 ⟨"CellMapper$Cover", "laidCost", "(I)I"⟩ ∈ cx_tb := cx_in1 (i := 561) (by decide +kernel) rfl
theorem cw_387 : Cond.instanceMethod ⟨"CellMapper$Cover", "laidCost", "(I)I"⟩ ∈ cx_tb := cx_in1 (i := 563) (by decide +kernel) rfl
theorem cw_388 : Cond.selects "CellMapper$Cover" ⟨"CellMapper$Cover", "laidCost", "(I)I"⟩ ⟨"CellMapper$Cover", "laidCost", "(I)I"⟩ ∈ cx_tb := cx_in2 (i := 13) (by decide +kernel) rfl
theorem cw_389 : Cond.methodLink "CellMapper$Cover" 155 ⟨"CellMapper$Cover", "isRoot", "(I)Z"⟩ ∈ cx_tb := cx_in1 (i := 552) (by decide +kernel) rfl
theorem cw_390 : Cond.instanceMethod ⟨"CellMapper$Cover", "isRoot", "(I)Z"⟩ ∈ cx_tb := cx_in1 (i := 554) (by decide +kernel) rfl
theorem cw_391 : Cond.selects "CellMapper$Cover" ⟨"CellMapper$Cover", "isRoot", "(I)Z"⟩ ⟨"CellMapper$Cover", "isRoot", "(I)Z"⟩ ∈ cx_tb := cx_in2 (i := 11) (by decide +kernel) rfl
theorem cw_392 : Cond.methodLink "CellMapper$Cover" 158 ⟨"CellMapper$Library", "digit", "(II)I"⟩ ∈ cx_tb := cx_in1 (i := 548) (by decide +kernel) rfl
theorem cw_393 : Cond.instanceMethod ⟨"CellMapper$Library", "digit", "(II)I"⟩ ∈ cx_tb := cx_in1 (i := 549) (by decide +kernel) rfl
theorem cw_394 : Cond.selects "CellMapper$Library" ⟨"CellMapper$Library", "digit", "(II)I"⟩ ⟨"CellMapper$Library", "digit", "(II)I"⟩ ∈ cx_tb := cx_in1 (i := 550) (by decide +kernel) rfl
theorem cw_395 : Cond.methodLink "CellMapper$Cover" 161 ⟨"CellMapper$Graph", "isInv", "(I)Z"⟩ ∈ cx_tb := cx_in1 (i := 556) (by decide +kernel) rfl
theorem cw_396 : Cond.methodLink "CellMapper$Cover" 164 ⟨"CellMapper$Cover", "markPins", "(I)V"⟩ ∈ cx_tb := cx_in1 (i := 581) (by decide +kernel) rfl
theorem cw_397 : Cond.instanceMethod ⟨"CellMapper$Cover", "markPins", "(I)V"⟩ ∈ cx_tb := cx_in1 (i := 583) (by decide +kernel) rfl
theorem cw_398 : Cond.selects "CellMapper$Cover" ⟨"CellMapper$Cover", "markPins", "(I)V"⟩ ⟨"CellMapper$Cover", "markPins", "(I)V"⟩ ∈ cx_tb := cx_in2 (i := 15) (by decide +kernel) rfl
theorem cw_399 : Cond.methodLink "CellMapper$Cover" 167 ⟨"CellMapper$Cover", "gatePins", "(I)I"⟩ ∈ cx_tb := cx_in1 (i := 585) (by decide +kernel) rfl
theorem cw_400 : Cond.methodLink "CellMapper$Cover" 170 ⟨"CellMapper$Cover", "pinNode", "(II)I"⟩ ∈ cx_tb := cx_in1 (i := 589) (by decide +kernel) rfl
theorem cw_401 : Cond.instanceMethod ⟨"CellMapper$Cover", "pinNode", "(II)I"⟩ ∈ cx_tb := cx_in1 (i := 590) (by decide +kernel) rfl
theorem cw_402 : Cond.selects "CellMapper$Cover" ⟨"CellMapper$Cover", "pinNode", "(II)I"⟩ ⟨"CellMapper$Cover", "pinNode", "(II)I"⟩ ∈ cx_tb := cx_in1 (i := 591) (by decide +kernel) rfl
theorem cw_403 : Cond.methodLink "CellMapper$Connections" 49 ⟨"CellMapper$Cover", "gateCount", "()I"⟩ ∈ cx_tb := cx_in1 (i := 601) (by decide +kernel) rfl
theorem cw_404 : Cond.methodLink "CellMapper$Connections" 55 ⟨"CellMapper$Cover", "gate", "(I)I"⟩ ∈ cx_tb := cx_in1 (i := 605) (by decide +kernel) rfl
theorem cw_405 : Cond.instanceMethod ⟨"CellMapper$Cover", "gate", "(I)I"⟩ ∈ cx_tb := cx_in1 (i := 606) (by decide +kernel) rfl
theorem cw_406 : Cond.selects "CellMapper$Cover" ⟨"CellMapper$Cover", "gate", "(I)I"⟩ ⟨"CellMapper$Cover", "gate", "(I)I"⟩ ∈ cx_tb := cx_in1 (i := 607) (by decide +kernel) rfl
theorem cw_407 : Cond.methodLink "CellMapper$Connections" 59 ⟨"CellMapper$Connections", "connectGate", "(I)V"⟩ ∈ cx_tb := cx_in1 (i := 609) (by decide +kernel) rfl
theorem cw_408 : Cond.instanceMethod ⟨"CellMapper$Connections", "connectGate", "(I)V"⟩ ∈ cx_tb := cx_in1 (i := 611) (by decide +kernel) rfl
theorem cw_409 : Cond.selects "CellMapper$Connections" ⟨"CellMapper$Connections", "connectGate", "(I)V"⟩ ⟨"CellMapper$Connections", "connectGate", "(I)V"⟩ ∈ cx_tb := cx_in2 (i := 17) (by decide +kernel) rfl
theorem cw_410 : Cond.methodLink "CellMapper$Connections" 63 ⟨"CellMapper$Circuit", "outputCount", "()I"⟩ ∈ cx_tb := cx_in1 (i := 626) (by decide +kernel) rfl
theorem cw_411 : Cond.methodLink "CellMapper$Connections" 68 ⟨"CellMapper$Circuit", "outputNode", "(I)I"⟩ ∈ cx_tb := cx_in1 (i := 627) (by decide +kernel) rfl
theorem cw_412 : Cond.methodLink "CellMapper$Connections" 71 ⟨"CellMapper$Connections", "add", "(II)V"⟩ ∈ cx_tb := cx_in1 (i := 615) (by decide +kernel) rfl
theorem cw_413 : Cond.instanceMethod ⟨"CellMapper$Connections", "add", "(II)V"⟩ ∈ cx_tb := cx_in1 (i := 617) (by decide +kernel) rfl
theorem cw_414 : Cond.selects "CellMapper$Connections" ⟨"CellMapper$Connections", "add", "(II)V"⟩ ⟨"CellMapper$Connections", "add", "(II)V"⟩ ∈ cx_tb := cx_in2 (i := 18) (by decide +kernel) rfl
theorem cw_415 : Cond.methodLink "CellMapper$Connections" 75 ⟨"CellMapper$Cover", "gatePins", "(I)I"⟩ ∈ cx_tb := cx_in1 (i := 613) (by decide +kernel) rfl
theorem cw_416 : Cond.methodLink "CellMapper$Connections" 78 ⟨"CellMapper$Cover", "pinNode", "(II)I"⟩ ∈ cx_tb := cx_in1 (i := 614) (by decide +kernel) rfl
theorem cw_417 : Cond.methodLink "CellMapper$Connections" 82 ⟨"CellMapper$Graph", "isLatch", "(I)Z"⟩ ∈ cx_tb := cx_in1 (i := 619) (by decide +kernel) rfl
theorem cw_418 : Cond.methodLink "CellMapper$Connections" 88 ⟨"CellMapper$Graph", "ordinal", "(I)I"⟩ ∈ cx_tb := cx_in1 (i := 620) (by decide +kernel) rfl
theorem cw_419 : Cond.methodLink "CellMapper$Connections" 91 ⟨"CellMapper$Circuit", "initialValue", "(I)I"⟩ ∈ cx_tb := cx_in1 (i := 621) (by decide +kernel) rfl
theorem cw_420 : Cond.instanceMethod ⟨"CellMapper$Circuit", "initialValue", "(I)I"⟩ ∈ cx_tb := cx_in1 (i := 622) (by decide +kernel) rfl
theorem cw_421 : Cond.selects "CellMapper$Circuit" ⟨"CellMapper$Circuit", "initialValue", "(I)I"⟩ ⟨"CellMapper$Circuit", "initialValue", "(I)I"⟩ ∈ cx_tb := cx_in1 (i := 623) (by decide +kernel) rfl
theorem cw_422 : Cond.methodLink "CellMapper$Connections" 94 ⟨"CellMapper$Circuit", "drivingNode", "(I)I"⟩ ∈ cx_tb := cx_in1 (i := 625) (by decide +kernel) rfl
theorem cw_423 : Cond.methodLink "CellMapper$Retiming" 42 ⟨"CellMapper$Retiming", "measure", "()I"⟩ ∈ cx_tb := cx_in1 (i := 633) (by decide +kernel) rfl
theorem cw_424 : Cond.instanceMethod ⟨"CellMapper$Retiming", "measure", "()I"⟩ ∈ cx_tb := cx_in1 (i := 635) (by decide +kernel) rfl
theorem cw_425 : Cond.selects "CellMapper$Retiming" ⟨"CellMapper$Retiming", "measure", "()I"⟩ ⟨"CellMapper$Retiming", "measure", "()I"⟩ ∈ cx_tb := cx_in2 (i := 19) (by decide +kernel) rfl
theorem cw_426 : Cond.methodLink "CellMapper$Retiming" 46 ⟨"CellMapper$Retiming", "slowestGate", "()I"⟩ ∈ cx_tb := cx_in1 (i := 676) (by decide +kernel) rfl
theorem cw_427 : Cond.instanceMethod ⟨"CellMapper$Retiming", "slowestGate", "()I"⟩ ∈ cx_tb := cx_in1 (i := 678) (by decide +kernel) rfl
theorem cw_428 : Cond.selects "CellMapper$Retiming" ⟨"CellMapper$Retiming", "slowestGate", "()I"⟩ ⟨"CellMapper$Retiming", "slowestGate", "()I"⟩ ∈ cx_tb := cx_in2 (i := 22) (by decide +kernel) rfl
theorem cw_429 : Cond.methodLink "CellMapper$Retiming" 49 ⟨"CellMapper$Cover", "gateCount", "()I"⟩ ∈ cx_tb := cx_in1 (i := 637) (by decide +kernel) rfl
theorem cw_430 : Cond.methodLink "CellMapper$Retiming" 54 ⟨"CellMapper$Retiming", "raise", "(I)V"⟩ ∈ cx_tb := cx_in1 (i := 680) (by decide +kernel) rfl
theorem cw_431 : Cond.instanceMethod ⟨"CellMapper$Retiming", "raise", "(I)V"⟩ ∈ cx_tb := cx_in1 (i := 682) (by decide +kernel) rfl
theorem cw_432 : Cond.selects "CellMapper$Retiming" ⟨"CellMapper$Retiming", "raise", "(I)V"⟩ ⟨"CellMapper$Retiming", "raise", "(I)V"⟩ ∈ cx_tb := cx_in2 (i := 23) (by decide +kernel) rfl
theorem cw_433 : Cond.methodLink "CellMapper$Retiming" 58 ⟨"CellMapper$Retiming", "hasTakenTooMany", "()Z"⟩ ∈ cx_tb := cx_in1 (i := 684) (by decide +kernel) rfl
theorem cw_434 : Cond.instanceMethod ⟨"CellMapper$Retiming", "hasTakenTooMany", "()Z"⟩ ∈ cx_tb := cx_in1 (i := 686) (by decide +kernel) rfl
theorem cw_435 : Cond.selects "CellMapper$Retiming" ⟨"CellMapper$Retiming", "hasTakenTooMany", "()Z"⟩ ⟨"CellMapper$Retiming", "hasTakenTooMany", "()Z"⟩ ∈ cx_tb := cx_in2 (i := 24) (by decide +kernel) rfl
theorem cw_436 : Cond.methodLink "CellMapper$Retiming" 68 ⟨"CellMapper$Retiming", "makeMoves", "()V"⟩ ∈ cx_tb := cx_in1 (i := 689) (by decide +kernel) rfl
theorem cw_437 : Cond.instanceMethod ⟨"CellMapper$Retiming", "makeMoves", "()V"⟩ ∈ cx_tb := cx_in1 (i := 691) (by decide +kernel) rfl
theorem cw_438 : Cond.selects "CellMapper$Retiming" ⟨"CellMapper$Retiming", "makeMoves", "()V"⟩ ⟨"CellMapper$Retiming", "makeMoves", "()V"⟩ ∈ cx_tb := cx_in2 (i := 25) (by decide +kernel) rfl
theorem cw_439 : Cond.methodLink "CellMapper$Retiming" 71 ⟨"CellMapper$Cover", "gate", "(I)I"⟩ ∈ cx_tb := cx_in1 (i := 638) (by decide +kernel) rfl
theorem cw_440 : Cond.methodLink "CellMapper$Retiming" 75 ⟨"CellMapper$Cover", "gateDelay", "(I)I"⟩ ∈ cx_tb := cx_in1 (i := 639) (by decide +kernel) rfl
theorem cw_441 : Cond.instanceMethod ⟨"CellMapper$Cover", "gateDelay", "(I)I"⟩ ∈ cx_tb := cx_in1 (i := 640) (by decide +kernel) rfl
theorem cw_442 : Cond.selects "CellMapper$Cover" ⟨"CellMapper$Cover", "gateDelay", "(I)I"⟩ ⟨"CellMapper$Cover", "gateDelay", "(I)I"⟩ ∈ cx_tb := cx_in1 (i := 641) (by decide +kernel) rfl
theorem cw_443 : Cond.methodLink "CellMapper$Retiming" 84 ⟨"CellMapper$Retiming", "growTails", "()Z"⟩ ∈ cx_tb := cx_in1 (i := 647) (by decide +kernel) rfl
theorem cw_444 : Cond.instanceMethod ⟨"CellMapper$Retiming", "growTails", "()Z"⟩ ∈ cx_tb := cx_in1 (i := 649) (by decide +kernel) rfl
theorem cw_445 : Cond.selects "CellMapper$Retiming" ⟨"CellMapper$Retiming", "growTails", "()Z"⟩ ⟨"CellMapper$Retiming", "growTails", "()Z"⟩ ∈ cx_tb := cx_in2 (i := 20) (by decide +kernel) rfl
theorem cw_446 : Cond.methodLink "CellMapper$Retiming" 87 ⟨"CellMapper$Connections", "size", "()I"⟩ ∈ cx_tb := cx_in1 (i := 651) (by decide +kernel) rfl
theorem cw_447 : Cond.instanceMethod ⟨"CellMapper$Connections", "size", "()I"⟩ ∈ cx_tb := cx_in1 (i := 652) (by decide +kernel) rfl
theorem cw_448 : Cond.selects "CellMapper$Connections" ⟨"CellMapper$Connections", "size", "()I"⟩ ⟨"CellMapper$Connections", "size", "()I"⟩ ∈ cx_tb := cx_in1 (i := 653) (by decide +kernel) rfl
theorem cw_449 : Cond.methodLink "CellMapper$Retiming" 92 ⟨"CellMapper$Connections", "source", "(I)I"⟩ ∈ cx_tb := cx_in1 (i := 655) (by decide +kernel) rfl
theorem cw_450 : Cond.instanceMethod ⟨"CellMapper$Connections", "source", "(I)I"⟩ ∈ cx_tb := cx_in1 (i := 656) (by decide +kernel) rfl
theorem cw_451 : Cond.selects "CellMapper$Connections" ⟨"CellMapper$Connections", "source", "(I)I"⟩ ⟨"CellMapper$Connections", "source", "(I)I"⟩ ∈ cx_tb := cx_in1 (i := 657) (by decide +kernel) rfl
theorem cw_452 : Cond.methodLink "CellMapper$Retiming" 95 ⟨"CellMapper$Connections", "target", "(I)I"⟩ ∈ cx_tb := cx_in1 (i := 659) (by decide +kernel) rfl
theorem cw_453 : Cond.instanceMethod ⟨"CellMapper$Connections", "target", "(I)I"⟩ ∈ cx_tb := cx_in1 (i := 660) (by decide +kernel) rfl
theorem cw_454 : Cond.selects "CellMapper$Connections" ⟨"CellMapper$Connections", "target", "(I)I"⟩ ⟨"CellMapper$Connections", "target", "(I)I"⟩ ∈ cx_tb := cx_in1 (i := 661) (by decide +kernel) rfl
theorem cw_455 : Cond.methodLink "CellMapper$Retiming" 98 ⟨"CellMapper$Cover", "isGate", "(I)Z"⟩ ∈ cx_tb := cx_in1 (i := 663) (by decide +kernel) rfl
theorem cw_456 : Cond.methodLink "CellMapper$Retiming" 102 ⟨"CellMapper$Retiming", "trialCount", "(I)I"⟩ ∈ cx_tb := cx_in1 (i := 667) (by decide +kernel) rfl
theorem cw_457 : Cond.instanceMethod ⟨"CellMapper$Retiming", "trialCount", "(I)I"⟩ ∈ cx_tb := cx_in1 (i := 669) (by decide +kernel) rfl
theorem cw_458 : Cond.selects "CellMapper$Retiming" ⟨"CellMapper$Retiming", "trialCount", "(I)I"⟩ ⟨"CellMapper$Retiming", "trialCount", "(I)I"⟩ ∈ cx_tb := cx_in2 (i := 21) (by decide +kernel) rfl
theorem cw_459 : Cond.methodLink "CellMapper$Retiming" 105 ⟨"CellMapper$Connections", "count", "(I)I"⟩ ∈ cx_tb := cx_in1 (i := 671) (by decide +kernel) rfl
theorem cw_460 : Cond.instanceMethod ⟨"CellMapper$Connections", "count", "(I)I"⟩ ∈ cx_tb := cx_in1 (i := 672) (by decide +kernel) rfl
theorem cw_461 : Cond.selects "CellMapper$Connections" ⟨"CellMapper$Connections", "count", "(I)I"⟩ ⟨"CellMapper$Connections", "count", "(I)I"⟩ ∈ cx_tb := cx_in1 (i := 673) (by decide +kernel) rfl
theorem cw_462 : Cond.methodLink "CellMapper$Retiming" 108 ⟨"CellMapper$Retiming", "canMove", "(I)Z"⟩ ∈ cx_tb := cx_in1 (i := 693) (by decide +kernel) rfl
theorem cw_463 : Cond.instanceMethod ⟨"CellMapper$Retiming", "canMove", "(I)Z"⟩ ∈ cx_tb := cx_in1 (i := 695) (by decide +kernel) rfl
theorem cw_464 : Cond.selects "CellMapper$Retiming" ⟨"CellMapper$Retiming", "canMove", "(I)Z"⟩ ⟨"CellMapper$Retiming", "canMove", "(I)Z"⟩ ∈ cx_tb := cx_in2 (i := 26) (by decide +kernel) rfl
theorem cw_465 : Cond.methodLink "CellMapper$Retiming" 111 ⟨"CellMapper$Retiming", "moveAt", "(I)V"⟩ ∈ cx_tb := cx_in1 (i := 702) (by decide +kernel) rfl
theorem cw_466 : Cond.instanceMethod ⟨"CellMapper$Retiming", "moveAt", "(I)V"⟩ ∈ cx_tb := cx_in1 (i := 704) (by decide +kernel) rfl
theorem cw_467 : Cond.selects "CellMapper$Retiming" ⟨"CellMapper$Retiming", "moveAt", "(I)V"⟩ ⟨"CellMapper$Retiming", "moveAt", "(I)V"⟩ ∈ cx_tb := cx_in2 (i := 27) (by decide +kernel) rfl
theorem cw_468 : Cond.methodLink "CellMapper$Retiming" 114 ⟨"CellMapper$Connections", "ofGate", "(I)I"⟩ ∈ cx_tb := cx_in1 (i := 697) (by decide +kernel) rfl
theorem cw_469 : Cond.methodLink "CellMapper$Retiming" 117 ⟨"CellMapper$Cover", "gatePins", "(I)I"⟩ ∈ cx_tb := cx_in1 (i := 701) (by decide +kernel) rfl
theorem cw_470 : Cond.methodLink "CellMapper$Retiming" 120 ⟨"CellMapper$Connections", "takeLast", "(I)I"⟩ ∈ cx_tb := cx_in1 (i := 706) (by decide +kernel) rfl
theorem cw_471 : Cond.instanceMethod ⟨"CellMapper$Connections", "takeLast", "(I)I"⟩ ∈ cx_tb := cx_in1 (i := 707) (by decide +kernel) rfl
theorem cw_472 : Cond.selects "CellMapper$Connections" ⟨"CellMapper$Connections", "takeLast", "(I)I"⟩ ⟨"CellMapper$Connections", "takeLast", "(I)I"⟩ ∈ cx_tb := cx_in1 (i := 708) (by decide +kernel) rfl
theorem cw_473 : Cond.methodLink "CellMapper$Retiming" 123 ⟨"CellMapper$Cover", "gateValue", "(II)I"⟩ ∈ cx_tb := cx_in1 (i := 710) (by decide +kernel) rfl
theorem cw_474 : Cond.instanceMethod ⟨"CellMapper$Cover", "gateValue", "(II)I"⟩ ∈ cx_tb := cx_in1 (i := 711) (by decide +kernel) rfl
theorem cw_475 : Cond.selects "CellMapper$Cover" ⟨"CellMapper$Cover", "gateValue", "(II)I"⟩ ⟨"CellMapper$Cover", "gateValue", "(II)I"⟩ ∈ cx_tb := cx_in1 (i := 712) (by decide +kernel) rfl
theorem cw_476 : Cond.methodLink "CellMapper$Retiming" 126 ⟨"CellMapper$Connections", "putFirst", "(II)V"⟩ ∈ cx_tb := cx_in1 (i := 718) (by decide +kernel) rfl
theorem cw_477 : Cond.instanceMethod ⟨"CellMapper$Connections", "putFirst", "(II)V"⟩ ∈ cx_tb := cx_in1 (i := 719) (by decide +kernel) rfl
theorem cw_478 : Cond.selects "CellMapper$Connections" ⟨"CellMapper$Connections", "putFirst", "(II)V"⟩ ⟨"CellMapper$Connections", "putFirst", "(II)V"⟩ ∈ cx_tb := cx_in1 (i := 720) (by decide +kernel) rfl
theorem cw_479 : Cond.methodLink "CellMapper$Machine" 44 ⟨"CellMapper$Cover", "gateCount", "()I"⟩ ∈ cx_tb := cx_in1 (i := 726) (by decide +kernel) rfl
theorem cw_480 : Cond.methodLink "CellMapper$Machine" 50 ⟨"CellMapper$Cover", "gate", "(I)I"⟩ ∈ cx_tb := cx_in1 (i := 727) (by decide +kernel) rfl
theorem cw_481 : Cond.methodLink "CellMapper$Machine" 54 ⟨"CellMapper$Machine", "isReady", "(I)Z"⟩ ∈ cx_tb := cx_in1 (i := 728) (by decide +kernel) rfl
theorem cw_482 : Cond.instanceMethod ⟨"CellMapper$Machine", "isReady", "(I)Z"⟩ ∈ cx_tb := cx_in1 (i := 730) (by decide +kernel) rfl
theorem cw_483 : Cond.selects "CellMapper$Machine" ⟨"CellMapper$Machine", "isReady", "(I)Z"⟩ ⟨"CellMapper$Machine", "isReady", "(I)Z"⟩ ∈ cx_tb := cx_in2 (i := 28) (by decide +kernel) rfl
theorem cw_484 : Cond.methodLink "CellMapper$Machine" 58 ⟨"CellMapper$Connections", "size", "()I"⟩ ∈ cx_tb := cx_in1 (i := 741) (by decide +kernel) rfl
theorem cw_485 : Cond.methodLink "CellMapper$Machine" 61 ⟨"CellMapper$Connections", "row", "(I)J"⟩ ∈ cx_tb := cx_in1 (i := 742) (by decide +kernel) rfl
theorem cw_486 : Cond.instanceMethod ⟨"CellMapper$Connections", "row", "(I)J"⟩ ∈ cx_tb := cx_in1 (i := 743) (by decide +kernel) rfl
theorem cw_487 : Cond.selects "CellMapper$Connections" ⟨"CellMapper$Connections", "row", "(I)J"⟩ ⟨"CellMapper$Connections", "row", "(I)J"⟩ ∈ cx_tb := cx_in1 (i := 744) (by decide +kernel) rfl
theorem cw_488 : Cond.methodLink "CellMapper$Machine" 65 ⟨"CellMapper$Machine", "readInputs", "(I)V"⟩ ∈ cx_tb := cx_in1 (i := 841) (by decide +kernel) rfl
theorem cw_489 : Cond.instanceMethod ⟨"CellMapper$Machine", "readInputs", "(I)V"⟩ ∈ cx_tb := cx_in1 (i := 843) (by decide +kernel) rfl
theorem cw_490 : Cond.selects "CellMapper$Machine" ⟨"CellMapper$Machine", "readInputs", "(I)V"⟩ ⟨"CellMapper$Machine", "readInputs", "(I)V"⟩ ∈ cx_tb := cx_in2 (i := 31) (by decide +kernel) rfl
theorem cw_491 : Cond.methodLink "CellMapper$Machine" 69 ⟨"CellMapper$Machine", "outputValue", "(I)I"⟩ ∈ cx_tb := cx_in1 (i := 848) (by decide +kernel) rfl
theorem cw_492 : Cond.instanceMethod ⟨"CellMapper$Machine", "outputValue", "(I)I"⟩ ∈ cx_tb := cx_in1 (i := 850) (by decide +kernel) rfl
theorem cw_493 : Cond.selects "CellMapper$Machine" ⟨"CellMapper$Machine", "outputValue", "(I)I"⟩ ⟨"CellMapper$Machine", "outputValue", "(I)I"⟩ ∈ cx_tb := cx_in2 (i := 32) (by decide +kernel) rfl
theorem cw_494 : Cond.methodLink "CellMapper$Machine" 72 ⟨"CellMapper$Circuit", "outputCount", "()I"⟩ ∈ cx_tb := cx_in1 (i := 857) (by decide +kernel) rfl
theorem cw_495 : Cond.methodLink "CellMapper$Machine" 77 ⟨"CellMapper$Connections", "ofOutput", "(I)I"⟩ ∈ cx_tb := cx_in1 (i := 858) (by decide +kernel) rfl
theorem cw_496 : Cond.methodLink "CellMapper$Machine" 80 ⟨"CellMapper$Machine", "arrivingValue", "(I)I"⟩ ∈ cx_tb := cx_in1 (i := 852) (by decide +kernel) rfl
theorem cw_497 : Cond.instanceMethod ⟨"CellMapper$Machine", "arrivingValue", "(I)I"⟩ ∈ cx_tb := cx_in1 (i := 854) (by decide +kernel) rfl
theorem cw_498 : Cond.selects "CellMapper$Machine" ⟨"CellMapper$Machine", "arrivingValue", "(I)I"⟩ ⟨"CellMapper$Machine", "arrivingValue", "(I)I"⟩ ∈ cx_tb := cx_in2 (i := 33) (by decide +kernel) rfl
theorem cw_499 : Cond.methodLink "CellMapper$Machine" 83 ⟨"CellMapper$Machine", "shiftRows", "()V"⟩ ∈ cx_tb := cx_in1 (i := 859) (by decide +kernel) rfl
theorem cw_500 : Cond.instanceMethod ⟨"CellMapper$Machine", "shiftRows", "()V"⟩ ∈ cx_tb := cx_in1 (i := 861) (by decide +kernel) rfl
theorem cw_501 : Cond.selects "CellMapper$Machine" ⟨"CellMapper$Machine", "shiftRows", "()V"⟩ ⟨"CellMapper$Machine", "shiftRows", "()V"⟩ ∈ cx_tb := cx_in2 (i := 34) (by decide +kernel) rfl
theorem cw_502 : Cond.methodLink "CellMapper$Machine" 86 ⟨"CellMapper$Connections", "ofGate", "(I)I"⟩ ∈ cx_tb := cx_in1 (i := 732) (by decide +kernel) rfl
theorem cw_503 : Cond.methodLink "CellMapper$Machine" 89 ⟨"CellMapper$Cover", "gatePins", "(I)I"⟩ ∈ cx_tb := cx_in1 (i := 733) (by decide +kernel) rfl
theorem cw_504 : Cond.methodLink "CellMapper$Machine" 92 ⟨"CellMapper$Connections", "source", "(I)I"⟩ ∈ cx_tb := cx_in1 (i := 734) (by decide +kernel) rfl
theorem cw_505 : Cond.methodLink "CellMapper$Machine" 95 ⟨"CellMapper$Connections", "count", "(I)I"⟩ ∈ cx_tb := cx_in1 (i := 735) (by decide +kernel) rfl
theorem cw_506 : Cond.methodLink "CellMapper$Machine" 98 ⟨"CellMapper$Cover", "isGate", "(I)Z"⟩ ∈ cx_tb := cx_in1 (i := 736) (by decide +kernel) rfl
theorem cw_507 : Cond.methodLink "CellMapper$Machine" 101 ⟨"CellMapper$Graph", "size", "()I"⟩ ∈ cx_tb := cx_in1 (i := 845) (by decide +kernel) rfl
theorem cw_508 : Cond.methodLink "CellMapper$Machine" 104 ⟨"CellMapper$Graph", "isInput", "(I)Z"⟩ ∈ cx_tb := cx_in1 (i := 846) (by decide +kernel) rfl
theorem cw_509 : Cond.methodLink "CellMapper$Machine" 107 ⟨"CellMapper$Graph", "ordinal", "(I)I"⟩ ∈ cx_tb := cx_in1 (i := 847) (by decide +kernel) rfl
theorem cw_510 : Cond.methodLink "CellMapper$Machine" 110 ⟨"CellMapper$Cover", "gateValue", "(II)I"⟩ ∈ cx_tb := cx_in1 (i := 856) (by decide +kernel) rfl
theorem cw_511 : Cond.methodLink "CellMapperModel" 139 ⟨"CellMapperModel", "newNode", "(IIII)I"⟩ ∈ cx_tb := cx_in1 (i := 1031) (by decide +kernel) rfl
theorem cw_512 : Cond.instanceMethod ⟨"CellMapperModel", "newNode", "(IIII)I"⟩ ∈ cx_tb := cx_in1 (i := 1033) (by decide +kernel) rfl
theorem cw_513 : Cond.selects "CellMapperModel" ⟨"CellMapperModel", "newNode", "(IIII)I"⟩ ⟨"CellMapperModel", "newNode", "(IIII)I"⟩ ∈ cx_tb := cx_in2 (i := 35) (by decide +kernel) rfl
theorem cw_514 : Cond.methodLink "CellMapperModel" 143 ⟨"CellMapperModel", "find", "(III)I"⟩ ∈ cx_tb := cx_in1 (i := 1075) (by decide +kernel) rfl
theorem cw_515 : Cond.instanceMethod ⟨"CellMapperModel", "find", "(III)I"⟩ ∈ cx_tb := cx_in1 (i := 1077) (by decide +kernel) rfl
theorem cw_516 : Cond.selects "CellMapperModel" ⟨"CellMapperModel", "find", "(III)I"⟩ ⟨"CellMapperModel", "find", "(III)I"⟩ ∈ cx_tb := cx_in2 (i := 44) (by decide +kernel) rfl
theorem cw_517 : Cond.methodLink "CellMapperModel" 147 ⟨"CellMapperModel", "inv", "(I)I"⟩ ∈ cx_tb := cx_in1 (i := 1071) (by decide +kernel) rfl
theorem cw_518 : Cond.instanceMethod ⟨"CellMapperModel", "inv", "(I)I"⟩ ∈ cx_tb := cx_in1 (i := 1073) (by decide +kernel) rfl
theorem cw_519 : Cond.selects "CellMapperModel" ⟨"CellMapperModel", "inv", "(I)I"⟩ ⟨"CellMapperModel", "inv", "(I)I"⟩ ∈ cx_tb := cx_in2 (i := 43) (by decide +kernel) rfl
theorem cw_520 : Cond.methodLink "CellMapperModel" 151 ⟨"CellMapperModel", "nand", "(II)I"⟩ ∈ cx_tb := cx_in1 (i := 1079) (by decide +kernel) rfl
theorem cw_521 : Cond.instanceMethod ⟨"CellMapperModel", "nand", "(II)I"⟩ ∈ cx_tb := cx_in1 (i := 1081) (by decide +kernel) rfl
theorem cw_522 : Cond.selects "CellMapperModel" ⟨"CellMapperModel", "nand", "(II)I"⟩ ⟨"CellMapperModel", "nand", "(II)I"⟩ ∈ cx_tb := cx_in2 (i := 45) (by decide +kernel) rfl
theorem cw_523 : Cond.methodLink "CellMapperModel" 155 ⟨"CellMapperModel", "join", "(IIIII)I"⟩ ∈ cx_tb := cx_in1 (i := 1067) (by decide +kernel) rfl
theorem cw_524 : Cond.instanceMethod ⟨"CellMapperModel", "join", "(IIIII)I"⟩ ∈ cx_tb := cx_in1 (i := 1069) (by decide +kernel) rfl
theorem cw_525 : Cond.selects "CellMapperModel" ⟨"CellMapperModel", "join", "(IIIII)I"⟩ ⟨"CellMapperModel", "join", "(IIIII)I"⟩ ∈ cx_tb := cx_in2 (i := 42) (by decide +kernel) rfl
theorem cw_526 : Cond.methodLink "CellMapperModel" 159 ⟨"CellMapperModel", "overOne", "(II)I"⟩ ∈ cx_tb := cx_in1 (i := 1063) (by decide +kernel) rfl
theorem cw_527 : Cond.instanceMethod ⟨"CellMapperModel", "overOne", "(II)I"⟩ ∈ cx_tb := cx_in1 (i := 1065) (by decide +kernel) rfl
theorem cw_528 : Cond.selects "CellMapperModel" ⟨"CellMapperModel", "overOne", "(II)I"⟩ ⟨"CellMapperModel", "overOne", "(II)I"⟩ ∈ cx_tb := cx_in2 (i := 41) (by decide +kernel) rfl
theorem cw_529 : Cond.methodLink "CellMapperModel" 165 ⟨"CellMapperModel", "overTwo", "(III)I"⟩ ∈ cx_tb := cx_in1 (i := 1059) (by decide +kernel) rfl
theorem cw_530 : Cond.instanceMethod ⟨"CellMapperModel", "overTwo", "(III)I"⟩ ∈ cx_tb := cx_in1 (i := 1061) (by decide +kernel) rfl
theorem cw_531 : Cond.selects "CellMapperModel" ⟨"CellMapperModel", "overTwo", "(III)I"⟩ ⟨"CellMapperModel", "overTwo", "(III)I"⟩ ∈ cx_tb := cx_in2 (i := 40) (by decide +kernel) rfl
theorem cw_532 : Cond.methodLink "CellMapperModel" 175 ⟨"CellMapperModel", "changed", "()V"⟩ ∈ cx_tb := cx_in1 (i := 1039) (by decide +kernel) rfl
theorem cw_533 : Cond.instanceMethod ⟨"CellMapperModel", "changed", "()V"⟩ ∈ cx_tb := cx_in1 (i := 1041) (by decide +kernel) rfl
theorem cw_534 : Cond.selects "CellMapperModel" ⟨"CellMapperModel", "changed", "()V"⟩ ⟨"CellMapperModel", "changed", "()V"⟩ ∈ cx_tb := cx_in2 (i := 37) (by decide +kernel) rfl
theorem cw_535 : Cond.methodLink "CellMapperModel" 181 ⟨"CellMapperModel", "newNet", "(III)I"⟩ ∈ cx_tb := cx_in1 (i := 1035) (by decide +kernel) rfl
theorem cw_536 : Cond.instanceMethod ⟨"CellMapperModel", "newNet", "(III)I"⟩ ∈ cx_tb := cx_in1 (i := 1037) (by decide +kernel) rfl
theorem cw_537 : Cond.selects "CellMapperModel" ⟨"CellMapperModel", "newNet", "(III)I"⟩ ⟨"CellMapperModel", "newNet", "(III)I"⟩ ∈ cx_tb := cx_in2 (i := 36) (by decide +kernel) rfl
theorem cw_538 : Cond.methodLink "CellMapperModel" 187 ⟨"CellMapperModel", "isNet", "(I)Z"⟩ ∈ cx_tb := cx_in1 (i := 1051) (by decide +kernel) rfl
theorem cw_539 : Cond.instanceMethod ⟨"CellMapperModel", "isNet", "(I)Z"⟩ ∈ cx_tb := cx_in1 (i := 1053) (by decide +kernel) rfl
theorem cw_540 : Cond.selects "CellMapperModel" ⟨"CellMapperModel", "isNet", "(I)Z"⟩ ⟨"CellMapperModel", "isNet", "(I)Z"⟩ ∈ cx_tb := cx_in2 (i := 38) (by decide +kernel) rfl
theorem cw_541 : Cond.methodLink "CellMapperModel" 191 ⟨"CellMapperModel", "overThree", "(IIII)I"⟩ ∈ cx_tb := cx_in1 (i := 1055) (by decide +kernel) rfl
theorem cw_542 : Cond.instanceMethod ⟨"CellMapperModel", "overThree", "(IIII)I"⟩ ∈ cx_tb := cx_in1 (i := 1057) (by decide +kernel) rfl
theorem cw_543 : Cond.selects "CellMapperModel" ⟨"CellMapperModel", "overThree", "(IIII)I"⟩ ⟨"CellMapperModel", "overThree", "(IIII)I"⟩ ∈ cx_tb := cx_in2 (i := 39) (by decide +kernel) rfl
theorem cw_544 : Cond.methodLink "CellMapperModel" 203 ⟨"CellMapperModel", "logic", "(I)Z"⟩ ∈ cx_tb := cx_in1 (i := 1141) (by decide +kernel) rfl
theorem cw_545 : Cond.instanceMethod ⟨"CellMapperModel", "logic", "(I)Z"⟩ ∈ cx_tb := cx_in1 (i := 1143) (by decide +kernel) rfl
theorem cw_546 : Cond.selects "CellMapperModel" ⟨"CellMapperModel", "logic", "(I)Z"⟩ ⟨"CellMapperModel", "logic", "(I)Z"⟩ ∈ cx_tb := cx_in2 (i := 52) (by decide +kernel) rfl
theorem cw_547 : Cond.methodLink "CellMapperModel" 206 ⟨"CellMapperModel", "needed", "(I)V"⟩ ∈ cx_tb := cx_in1 (i := 1137) (by decide +kernel) rfl
theorem cw_548 : Cond.instanceMethod ⟨"CellMapperModel", "needed", "(I)V"⟩ ∈ cx_tb := cx_in1 (i := 1139) (by decide +kernel) rfl
theorem cw_549 : Cond.selects "CellMapperModel" ⟨"CellMapperModel", "needed", "(I)V"⟩ ⟨"CellMapperModel", "needed", "(I)V"⟩ ∈ cx_tb := cx_in2 (i := 51) (by decide +kernel) rfl
theorem cw_550 : Cond.methodLink "CellMapperModel" 210 ⟨"CellMapperModel", "nands", "(I)I"⟩ ∈ cx_tb := cx_in1 (i := 1150) (by decide +kernel) rfl
theorem cw_551 : Cond.instanceMethod ⟨"CellMapperModel", "nands", "(I)I"⟩ ∈ cx_tb := cx_in1 (i := 1152) (by decide +kernel) rfl
theorem cw_552 : Cond.selects "CellMapperModel" ⟨"CellMapperModel", "nands", "(I)I"⟩ ⟨"CellMapperModel", "nands", "(I)I"⟩ ∈ cx_tb := cx_in2 (i := 54) (by decide +kernel) rfl
theorem cw_553 : Cond.methodLink "CellMapperModel" 217 ⟨"CellMapperModel", "lay", "(III)I"⟩ ∈ cx_tb := cx_in1 (i := 1154) (by decide +kernel) rfl
theorem cw_554 : Cond.instanceMethod ⟨"CellMapperModel", "lay", "(III)I"⟩ ∈ cx_tb := cx_in1 (i := 1156) (by decide +kernel) rfl
theorem cw_555 : Cond.selects "CellMapperModel" ⟨"CellMapperModel", "lay", "(III)I"⟩ ⟨"CellMapperModel", "lay", "(III)I"⟩ ∈ cx_tb := cx_in2 (i := 55) (by decide +kernel) rfl
theorem cw_556 : Cond.methodLink "CellMapperModel" 220 ⟨"CellMapperModel", "findRoots", "()V"⟩ ∈ cx_tb := cx_in1 (i := 1133) (by decide +kernel) rfl
theorem cw_557 : Cond.instanceMethod ⟨"CellMapperModel", "findRoots", "()V"⟩ ∈ cx_tb := cx_in1 (i := 1135) (by decide +kernel) rfl
theorem cw_558 : Cond.selects "CellMapperModel" ⟨"CellMapperModel", "findRoots", "()V"⟩ ⟨"CellMapperModel", "findRoots", "()V"⟩ ∈ cx_tb := cx_in2 (i := 50) (by decide +kernel) rfl
theorem cw_559 : Cond.methodLink "CellMapperModel" 223 ⟨"CellMapperModel", "choose", "(I)V"⟩ ∈ cx_tb := cx_in1 (i := 1145) (by decide +kernel) rfl
theorem cw_560 : Cond.instanceMethod ⟨"CellMapperModel", "choose", "(I)V"⟩ ∈ cx_tb := cx_in1 (i := 1147) (by decide +kernel) rfl
theorem cw_561 : Cond.selects "CellMapperModel" ⟨"CellMapperModel", "choose", "(I)V"⟩ ⟨"CellMapperModel", "choose", "(I)V"⟩ ∈ cx_tb := cx_in2 (i := 53) (by decide +kernel) rfl
theorem cw_562 : Cond.methodLink "CellMapperModel" 226 ⟨"CellMapperModel", "connect", "(II)V"⟩ ∈ cx_tb := cx_in1 (i := 1158) (by decide +kernel) rfl
theorem cw_563 : Cond.instanceMethod ⟨"CellMapperModel", "connect", "(II)V"⟩ ∈ cx_tb := cx_in1 (i := 1160) (by decide +kernel) rfl
theorem cw_564 : Cond.selects "CellMapperModel" ⟨"CellMapperModel", "connect", "(II)V"⟩ ⟨"CellMapperModel", "connect", "(II)V"⟩ ∈ cx_tb := cx_in2 (i := 56) (by decide +kernel) rfl
theorem cw_565 : Cond.methodLink "CellMapperModel" 230 ⟨"CellMapperModel", "delay", "(I)I"⟩ ∈ cx_tb := cx_in1 (i := 1166) (by decide +kernel) rfl
theorem cw_566 : Cond.instanceMethod ⟨"CellMapperModel", "delay", "(I)I"⟩ ∈ cx_tb := cx_in1 (i := 1168) (by decide +kernel) rfl
theorem cw_567 : Cond.selects "CellMapperModel" ⟨"CellMapperModel", "delay", "(I)I"⟩ ⟨"CellMapperModel", "delay", "(I)I"⟩ ∈ cx_tb := cx_in2 (i := 58) (by decide +kernel) rfl
theorem cw_568 : Cond.methodLink "CellMapperModel" 233 ⟨"CellMapperModel", "shorter", "(III)V"⟩ ∈ cx_tb := cx_in1 (i := 1170) (by decide +kernel) rfl
theorem cw_569 : Cond.instanceMethod ⟨"CellMapperModel", "shorter", "(III)V"⟩ ∈ cx_tb := cx_in1 (i := 1172) (by decide +kernel) rfl
theorem cw_570 : Cond.selects "CellMapperModel" ⟨"CellMapperModel", "shorter", "(III)V"⟩ ⟨"CellMapperModel", "shorter", "(III)V"⟩ ∈ cx_tb := cx_in2 (i := 59) (by decide +kernel) rfl
theorem cw_571 : Cond.methodLink "CellMapperModel" 240 ⟨"CellMapperModel", "raise", "(I)Z"⟩ ∈ cx_tb := cx_in1 (i := 1182) (by decide +kernel) rfl
theorem cw_572 : Cond.instanceMethod ⟨"CellMapperModel", "raise", "(I)Z"⟩ ∈ cx_tb := cx_in1 (i := 1184) (by decide +kernel) rfl
theorem cw_573 : Cond.selects "CellMapperModel" ⟨"CellMapperModel", "raise", "(I)Z"⟩ ⟨"CellMapperModel", "raise", "(I)Z"⟩ ∈ cx_tb := cx_in2 (i := 62) (by decide +kernel) rfl
theorem cw_574 : Cond.methodLink "CellMapperModel" 243 ⟨"CellMapperModel", "reachable", "(I)Z"⟩ ∈ cx_tb := cx_in1 (i := 1178) (by decide +kernel) rfl
theorem cw_575 : Cond.instanceMethod ⟨"CellMapperModel", "reachable", "(I)Z"⟩ ∈ cx_tb := cx_in1 (i := 1180) (by decide +kernel) rfl
theorem cw_576 : Cond.selects "CellMapperModel" ⟨"CellMapperModel", "reachable", "(I)Z"⟩ ⟨"CellMapperModel", "reachable", "(I)Z"⟩ ∈ cx_tb := cx_in2 (i := 61) (by decide +kernel) rfl
theorem cw_577 : Cond.methodLink "CellMapperModel" 249 ⟨"CellMapperModel", "pinsOf", "(I)I"⟩ ∈ cx_tb := cx_in1 (i := 1194) (by decide +kernel) rfl
theorem cw_578 : Cond.instanceMethod ⟨"CellMapperModel", "pinsOf", "(I)I"⟩ ∈ cx_tb := cx_in1 (i := 1196) (by decide +kernel) rfl
theorem cw_579 : Cond.selects "CellMapperModel" ⟨"CellMapperModel", "pinsOf", "(I)I"⟩ ⟨"CellMapperModel", "pinsOf", "(I)I"⟩ ∈ cx_tb := cx_in2 (i := 65) (by decide +kernel) rfl
theorem cw_580 : Cond.methodLink "CellMapperModel" 252 ⟨"CellMapperModel", "told", "(II)Z"⟩ ∈ cx_tb := cx_in1 (i := 1198) (by decide +kernel) rfl
theorem cw_581 : Cond.instanceMethod ⟨"CellMapperModel", "told", "(II)Z"⟩ ∈ cx_tb := cx_in1 (i := 1200) (by decide +kernel) rfl
theorem cw_582 : Cond.selects "CellMapperModel" ⟨"CellMapperModel", "told", "(II)Z"⟩ ⟨"CellMapperModel", "told", "(II)Z"⟩ ∈ cx_tb := cx_in2 (i := 66) (by decide +kernel) rfl
theorem cw_583 : Cond.methodLink "CellMapperModel" 256 ⟨"CellMapperModel", "comes", "(II)I"⟩ ∈ cx_tb := cx_in1 (i := 1202) (by decide +kernel) rfl
theorem cw_584 : Cond.instanceMethod ⟨"CellMapperModel", "comes", "(II)I"⟩ ∈ cx_tb := cx_in1 (i := 1204) (by decide +kernel) rfl
theorem cw_585 : Cond.selects "CellMapperModel" ⟨"CellMapperModel", "comes", "(II)I"⟩ ⟨"CellMapperModel", "comes", "(II)I"⟩ ∈ cx_tb := cx_in2 (i := 67) (by decide +kernel) rfl
theorem cw_586 : Cond.methodLink "CellMapperModel" 259 ⟨"CellMapperModel", "work", "(II)I"⟩ ∈ cx_tb := cx_in1 (i := 1206) (by decide +kernel) rfl
theorem cw_587 : Cond.instanceMethod ⟨"CellMapperModel", "work", "(II)I"⟩ ∈ cx_tb := cx_in1 (i := 1208) (by decide +kernel) rfl
theorem cw_588 : Cond.selects "CellMapperModel" ⟨"CellMapperModel", "work", "(II)I"⟩ ⟨"CellMapperModel", "work", "(II)I"⟩ ∈ cx_tb := cx_in2 (i := 68) (by decide +kernel) rfl
theorem cw_589 : Cond.methodLink "CellMapperModel" 262 ⟨"CellMapperModel", "give", "(I)Z"⟩ ∈ cx_tb := cx_in1 (i := 1190) (by decide +kernel) rfl
theorem cw_590 : Cond.instanceMethod ⟨"CellMapperModel", "give", "(I)Z"⟩ ∈ cx_tb := cx_in1 (i := 1192) (by decide +kernel) rfl
theorem cw_591 : Cond.selects "CellMapperModel" ⟨"CellMapperModel", "give", "(I)Z"⟩ ⟨"CellMapperModel", "give", "(I)Z"⟩ ∈ cx_tb := cx_in2 (i := 64) (by decide +kernel) rfl
theorem cw_592 : Cond.methodLink "CellMapperModel" 265 ⟨"CellMapperModel", "undriven", "()Z"⟩ ∈ cx_tb := cx_in1 (i := 1117) (by decide +kernel) rfl
theorem cw_593 : Cond.instanceMethod ⟨"CellMapperModel", "undriven", "()Z"⟩ ∈ cx_tb := cx_in1 (i := 1119) (by decide +kernel) rfl
theorem cw_594 : Cond.selects "CellMapperModel" ⟨"CellMapperModel", "undriven", "()Z"⟩ ⟨"CellMapperModel", "undriven", "()Z"⟩ ∈ cx_tb := cx_in2 (i := 46) (by decide +kernel) rfl
theorem cw_595 : Cond.methodLink "CellMapperModel" 269 ⟨"CellMapperModel", "ring", "()Z"⟩ ∈ cx_tb := cx_in1 (i := 1121) (by decide +kernel) rfl
theorem cw_596 : Cond.instanceMethod ⟨"CellMapperModel", "ring", "()Z"⟩ ∈ cx_tb := cx_in1 (i := 1123) (by decide +kernel) rfl
theorem cw_597 : Cond.selects "CellMapperModel" ⟨"CellMapperModel", "ring", "()Z"⟩ ⟨"CellMapperModel", "ring", "()Z"⟩ ∈ cx_tb := cx_in2 (i := 47) (by decide +kernel) rfl
theorem cw_598 : Cond.methodLink "CellMapperModel" 272 ⟨"CellMapperModel", "hasCell", "(I)Z"⟩ ∈ cx_tb := cx_in1 (i := 1125) (by decide +kernel) rfl
theorem cw_599 : Cond.instanceMethod ⟨"CellMapperModel", "hasCell", "(I)Z"⟩ ∈ cx_tb := cx_in1 (i := 1127) (by decide +kernel) rfl
theorem cw_600 : Cond.selects "CellMapperModel" ⟨"CellMapperModel", "hasCell", "(I)Z"⟩ ⟨"CellMapperModel", "hasCell", "(I)Z"⟩ ∈ cx_tb := cx_in2 (i := 48) (by decide +kernel) rfl
theorem cw_601 : Cond.methodLink "CellMapperModel" 275 ⟨"CellMapperModel", "cover", "()V"⟩ ∈ cx_tb := cx_in1 (i := 1129) (by decide +kernel) rfl
theorem cw_602 : Cond.instanceMethod ⟨"CellMapperModel", "cover", "()V"⟩ ∈ cx_tb := cx_in1 (i := 1131) (by decide +kernel) rfl
theorem cw_603 : Cond.selects "CellMapperModel" ⟨"CellMapperModel", "cover", "()V"⟩ ⟨"CellMapperModel", "cover", "()V"⟩ ∈ cx_tb := cx_in2 (i := 49) (by decide +kernel) rfl
theorem cw_604 : Cond.methodLink "CellMapperModel" 278 ⟨"CellMapperModel", "measure", "()V"⟩ ∈ cx_tb := cx_in1 (i := 1162) (by decide +kernel) rfl
theorem cw_605 : Cond.instanceMethod ⟨"CellMapperModel", "measure", "()V"⟩ ∈ cx_tb := cx_in1 (i := 1164) (by decide +kernel) rfl
theorem cw_606 : Cond.selects "CellMapperModel" ⟨"CellMapperModel", "measure", "()V"⟩ ⟨"CellMapperModel", "measure", "()V"⟩ ∈ cx_tb := cx_in2 (i := 57) (by decide +kernel) rfl
theorem cw_607 : Cond.methodLink "CellMapperModel" 281 ⟨"CellMapperModel", "shorten", "()V"⟩ ∈ cx_tb := cx_in1 (i := 1174) (by decide +kernel) rfl
theorem cw_608 : Cond.instanceMethod ⟨"CellMapperModel", "shorten", "()V"⟩ ∈ cx_tb := cx_in1 (i := 1176) (by decide +kernel) rfl
theorem cw_609 : Cond.selects "CellMapperModel" ⟨"CellMapperModel", "shorten", "()V"⟩ ⟨"CellMapperModel", "shorten", "()V"⟩ ∈ cx_tb := cx_in2 (i := 60) (by decide +kernel) rfl
theorem cw_610 : Cond.methodLink "CellMapperModel" 284 ⟨"CellMapperModel", "retime", "()V"⟩ ∈ cx_tb := cx_in1 (i := 1186) (by decide +kernel) rfl
theorem cw_611 : Cond.instanceMethod ⟨"CellMapperModel", "retime", "()V"⟩ ∈ cx_tb := cx_in1 (i := 1188) (by decide +kernel) rfl
theorem cw_612 : Cond.selects "CellMapperModel" ⟨"CellMapperModel", "retime", "()V"⟩ ⟨"CellMapperModel", "retime", "()V"⟩ ∈ cx_tb := cx_in2 (i := 63) (by decide +kernel) rfl
theorem cw_613 : Cond.methodLink "CellMapperModel" 287 ⟨"CellMapperModel", "gates", "()I"⟩ ∈ cx_tb := cx_in1 (i := 1210) (by decide +kernel) rfl
theorem cw_614 : Cond.instanceMethod ⟨"CellMapperModel", "gates", "()I"⟩ ∈ cx_tb := cx_in1 (i := 1212) (by decide +kernel) rfl
theorem cw_615 : Cond.selects "CellMapperModel" ⟨"CellMapperModel", "gates", "()I"⟩ ⟨"CellMapperModel", "gates", "()I"⟩ ∈ cx_tb := cx_in2 (i := 69) (by decide +kernel) rfl
theorem cw_616 : Cond.methodLink "CellMapperModel" 291 ⟨"CellMapperModel", "isGate", "(I)Z"⟩ ∈ cx_tb := cx_in1 (i := 1222) (by decide +kernel) rfl
theorem cw_617 : Cond.instanceMethod ⟨"CellMapperModel", "isGate", "(I)Z"⟩ ∈ cx_tb := cx_in1 (i := 1224) (by decide +kernel) rfl
theorem cw_618 : Cond.selects "CellMapperModel" ⟨"CellMapperModel", "isGate", "(I)Z"⟩ ⟨"CellMapperModel", "isGate", "(I)Z"⟩ ∈ cx_tb := cx_in2 (i := 70) (by decide +kernel) rfl
theorem cw_619 : Cond.methodLink "CellMapperModel" 300 ⟨"CellMapperModel", "entering", "(II)I"⟩ ∈ cx_tb := cx_in1 (i := 1249) (by decide +kernel) rfl
theorem cw_620 : Cond.instanceMethod ⟨"CellMapperModel", "entering", "(II)I"⟩ ∈ cx_tb := cx_in1 (i := 1251) (by decide +kernel) rfl
theorem cw_621 : Cond.selects "CellMapperModel" ⟨"CellMapperModel", "entering", "(II)I"⟩ ⟨"CellMapperModel", "entering", "(II)I"⟩ ∈ cx_tb := cx_in2 (i := 71) (by decide +kernel) rfl
theorem cw_622 : Cond.methodLink "CellMapperModel" 303 ⟨"CellMapperModel", "arrived", "(I)Z"⟩ ∈ cx_tb := cx_in1 (i := 1261) (by decide +kernel) rfl
theorem cw_623 : Cond.instanceMethod ⟨"CellMapperModel", "arrived", "(I)Z"⟩ ∈ cx_tb := cx_in1 (i := 1263) (by decide +kernel) rfl
theorem cw_624 : Cond.selects "CellMapperModel" ⟨"CellMapperModel", "arrived", "(I)Z"⟩ ⟨"CellMapperModel", "arrived", "(I)Z"⟩ ∈ cx_tb := cx_in2 (i := 73) (by decide +kernel) rfl
theorem cw_625 : Cond.methodLink "CellMapperModel" 306 ⟨"CellMapperModel", "ending", "(I)I"⟩ ∈ cx_tb := cx_in1 (i := 1265) (by decide +kernel) rfl
theorem cw_626 : Cond.instanceMethod ⟨"CellMapperModel", "ending", "(I)I"⟩ ∈ cx_tb := cx_in1 (i := 1267) (by decide +kernel) rfl
theorem cw_627 : Cond.selects "CellMapperModel" ⟨"CellMapperModel", "ending", "(I)I"⟩ ⟨"CellMapperModel", "ending", "(I)I"⟩ ∈ cx_tb := cx_in2 (i := 74) (by decide +kernel) rfl
theorem cw_628 : Cond.methodLink "CellMapperModel" 309 ⟨"CellMapperModel", "worked", "(I)Z"⟩ ∈ cx_tb := cx_in1 (i := 1257) (by decide +kernel) rfl
theorem cw_629 : Cond.instanceMethod ⟨"CellMapperModel", "worked", "(I)Z"⟩ ∈ cx_tb := cx_in1 (i := 1259) (by decide +kernel) rfl
theorem cw_630 : Cond.selects "CellMapperModel" ⟨"CellMapperModel", "worked", "(I)Z"⟩ ⟨"CellMapperModel", "worked", "(I)Z"⟩ ∈ cx_tb := cx_in2 (i := 72) (by decide +kernel) rfl
theorem cw_631 : Cond.methodLink "CellMapperLaw" 13 ⟨"CellMapper", "input", "()I"⟩ ∈ cx_tb := cx_in1 (i := 287) (by decide +kernel) rfl
theorem cw_632 : Cond.instanceMethod ⟨"CellMapper", "input", "()I"⟩ ∈ cx_tb := cx_in1 (i := 288) (by decide +kernel) rfl
theorem cw_633 : Cond.selects "CellMapper" ⟨"CellMapper", "input", "()I"⟩ ⟨"CellMapper", "input", "()I"⟩ ∈ cx_tb := cx_in1 (i := 289) (by decide +kernel) rfl
theorem cw_634 : Cond.methodLink "CellMapperLaw" 17 ⟨"CellMapperModel", "input", "()I"⟩ ∈ cx_tb := cx_in1 (i := 1027) (by decide +kernel) rfl
theorem cw_635 : Cond.instanceMethod ⟨"CellMapperModel", "input", "()I"⟩ ∈ cx_tb := cx_in1 (i := 1028) (by decide +kernel) rfl
theorem cw_636 : Cond.selects "CellMapperModel" ⟨"CellMapperModel", "input", "()I"⟩ ⟨"CellMapperModel", "input", "()I"⟩ ∈ cx_tb := cx_in1 (i := 1029) (by decide +kernel) rfl
theorem cw_637 : Cond.methodLink "CellMapperLaw" 18 ⟨"CellMapper", "latch", "(I)I"⟩ ∈ cx_tb := cx_in1 (i := 319) (by decide +kernel) rfl
theorem cw_638 : Cond.instanceMethod ⟨"CellMapper", "latch", "(I)I"⟩ ∈ cx_tb := cx_in1 (i := 320) (by decide +kernel) rfl
theorem cw_639 : Cond.selects "CellMapper" ⟨"CellMapper", "latch", "(I)I"⟩ ⟨"CellMapper", "latch", "(I)I"⟩ ∈ cx_tb := cx_in1 (i := 321) (by decide +kernel) rfl
theorem cw_640 : Cond.methodLink "CellMapperLaw" 22 ⟨"CellMapperModel", "latch", "(I)I"⟩ ∈ cx_tb := cx_in1 (i := 1043) (by decide +kernel) rfl
theorem cw_641 : Cond.instanceMethod ⟨"CellMapperModel", "latch", "(I)I"⟩ ∈ cx_tb := cx_in1 (i := 1044) (by decide +kernel) rfl
theorem cw_642 : Cond.selects "CellMapperModel" ⟨"CellMapperModel", "latch", "(I)I"⟩ ⟨"CellMapperModel", "latch", "(I)I"⟩ ∈ cx_tb := cx_in1 (i := 1045) (by decide +kernel) rfl
theorem cw_643 : Cond.methodLink "CellMapperLaw" 23 ⟨"CellMapper", "function", "(IIII)I"⟩ ∈ cx_tb := cx_in1 (i := 331) (by decide +kernel) rfl
theorem cw_644 : Cond.instanceMethod ⟨"CellMapper", "function", "(IIII)I"⟩ ∈ cx_tb := cx_in1 (i := 332) (by decide +kernel) rfl
theorem cw_645 : Cond.selects "CellMapper" ⟨"CellMapper", "function", "(IIII)I"⟩ ⟨"CellMapper", "function", "(IIII)I"⟩ ∈ cx_tb := cx_in1 (i := 333) (by decide +kernel) rfl
theorem cw_646 : Cond.methodLink "CellMapperLaw" 27 ⟨"CellMapperModel", "function", "(IIII)I"⟩ ∈ cx_tb := cx_in1 (i := 1047) (by decide +kernel) rfl
theorem cw_647 : Cond.instanceMethod ⟨"CellMapperModel", "function", "(IIII)I"⟩ ∈ cx_tb := cx_in1 (i := 1048) (by decide +kernel) rfl
theorem cw_648 : Cond.selects "CellMapperModel" ⟨"CellMapperModel", "function", "(IIII)I"⟩ ⟨"CellMapperModel", "function", "(IIII)I"⟩ ∈ cx_tb := cx_in1 (i := 1049) (by decide +kernel) rfl
theorem cw_649 : Cond.methodLink "CellMapperLaw" 28 ⟨"CellMapper", "drive", "(II)Z"⟩ ∈ cx_tb := cx_in1 (i := 387) (by decide +kernel) rfl
theorem cw_650 : Cond.instanceMethod ⟨"CellMapper", "drive", "(II)Z"⟩ ∈ cx_tb := cx_in1 (i := 388) (by decide +kernel) rfl
theorem cw_651 : Cond.selects "CellMapper" ⟨"CellMapper", "drive", "(II)Z"⟩ ⟨"CellMapper", "drive", "(II)Z"⟩ ∈ cx_tb := cx_in1 (i := 389) (by decide +kernel) rfl
theorem cw_652 : Cond.methodLink "CellMapperLaw" 32 ⟨"CellMapperModel", "drive", "(II)Z"⟩ ∈ cx_tb := cx_in1 (i := 1086) (by decide +kernel) rfl
theorem cw_653 : Cond.instanceMethod ⟨"CellMapperModel", "drive", "(II)Z"⟩ ∈ cx_tb := cx_in1 (i := 1087) (by decide +kernel) rfl
theorem cw_654 : Cond.selects "CellMapperModel" ⟨"CellMapperModel", "drive", "(II)Z"⟩ ⟨"CellMapperModel", "drive", "(II)Z"⟩ ∈ cx_tb := cx_in1 (i := 1088) (by decide +kernel) rfl
theorem cw_655 : Cond.methodLink "CellMapperLaw" 33 ⟨"CellMapper", "output", "(I)I"⟩ ∈ cx_tb := cx_in1 (i := 395) (by decide +kernel) rfl
theorem cw_656 : Cond.instanceMethod ⟨"CellMapper", "output", "(I)I"⟩ ∈ cx_tb := cx_in1 (i := 396) (by decide +kernel) rfl
theorem cw_657 : Cond.selects "CellMapper" ⟨"CellMapper", "output", "(I)I"⟩ ⟨"CellMapper", "output", "(I)I"⟩ ∈ cx_tb := cx_in1 (i := 397) (by decide +kernel) rfl
theorem cw_658 : Cond.methodLink "CellMapperLaw" 36 ⟨"CellMapperModel", "output", "(I)I"⟩ ∈ cx_tb := cx_in1 (i := 1090) (by decide +kernel) rfl
theorem cw_659 : Cond.instanceMethod ⟨"CellMapperModel", "output", "(I)I"⟩ ∈ cx_tb := cx_in1 (i := 1091) (by decide +kernel) rfl
theorem cw_660 : Cond.selects "CellMapperModel" ⟨"CellMapperModel", "output", "(I)I"⟩ ⟨"CellMapperModel", "output", "(I)I"⟩ ∈ cx_tb := cx_in1 (i := 1092) (by decide +kernel) rfl
theorem cw_661 : Cond.methodLink "CellMapperLaw" 37 ⟨"CellMapper", "cell", "(III)I"⟩ ∈ cx_tb := cx_in1 (i := 403) (by decide +kernel) rfl
theorem cw_662 : Cond.instanceMethod ⟨"CellMapper", "cell", "(III)I"⟩ ∈ cx_tb := cx_in1 (i := 404) (by decide +kernel) rfl
theorem cw_663 : Cond.selects "CellMapper" ⟨"CellMapper", "cell", "(III)I"⟩ ⟨"CellMapper", "cell", "(III)I"⟩ ∈ cx_tb := cx_in1 (i := 405) (by decide +kernel) rfl
theorem cw_664 : Cond.methodLink "CellMapperLaw" 41 ⟨"CellMapperModel", "cell", "(III)I"⟩ ∈ cx_tb := cx_in1 (i := 1094) (by decide +kernel) rfl
theorem cw_665 : Cond.instanceMethod ⟨"CellMapperModel", "cell", "(III)I"⟩ ∈ cx_tb := cx_in1 (i := 1095) (by decide +kernel) rfl
theorem cw_666 : Cond.selects "CellMapperModel" ⟨"CellMapperModel", "cell", "(III)I"⟩ ⟨"CellMapperModel", "cell", "(III)I"⟩ ∈ cx_tb := cx_in1 (i := 1096) (by decide +kernel) rfl
theorem cw_667 : Cond.methodLink "CellMapperLaw" 42 ⟨"CellMapper", "nodes", "()I"⟩ ∈ cx_tb := cx_in1 (i := 426) (by decide +kernel) rfl
theorem cw_668 : Cond.instanceMethod ⟨"CellMapper", "nodes", "()I"⟩ ∈ cx_tb := cx_in1 (i := 427) (by decide +kernel) rfl
theorem cw_669 : Cond.selects "CellMapper" ⟨"CellMapper", "nodes", "()I"⟩ ⟨"CellMapper", "nodes", "()I"⟩ ∈ cx_tb := cx_in1 (i := 428) (by decide +kernel) rfl
theorem cw_670 : Cond.methodLink "CellMapperLaw" 45 ⟨"CellMapperModel", "nodes", "()I"⟩ ∈ cx_tb := cx_in1 (i := 1101) (by decide +kernel) rfl
theorem cw_671 : Cond.instanceMethod ⟨"CellMapperModel", "nodes", "()I"⟩ ∈ cx_tb := cx_in1 (i := 1102) (by decide +kernel) rfl
theorem cw_672 : Cond.selects "CellMapperModel" ⟨"CellMapperModel", "nodes", "()I"⟩ ⟨"CellMapperModel", "nodes", "()I"⟩ ∈ cx_tb := cx_in1 (i := 1103) (by decide +kernel) rfl
theorem cw_673 : Cond.methodLink "CellMapperLaw" 46 ⟨"CellMapper", "nodeOf", "(I)I"⟩ ∈ cx_tb := cx_in1 (i := 431) (by decide +kernel) rfl
theorem cw_674 : Cond.instanceMethod ⟨"CellMapper", "nodeOf", "(I)I"⟩ ∈ cx_tb := cx_in1 (i := 432) (by decide +kernel) rfl
theorem cw_675 : Cond.selects "CellMapper" ⟨"CellMapper", "nodeOf", "(I)I"⟩ ⟨"CellMapper", "nodeOf", "(I)I"⟩ ∈ cx_tb := cx_in1 (i := 433) (by decide +kernel) rfl
theorem cw_676 : Cond.methodLink "CellMapperLaw" 49 ⟨"CellMapperModel", "nodeOf", "(I)I"⟩ ∈ cx_tb := cx_in1 (i := 1105) (by decide +kernel) rfl
theorem cw_677 : Cond.instanceMethod ⟨"CellMapperModel", "nodeOf", "(I)I"⟩ ∈ cx_tb := cx_in1 (i := 1106) (by decide +kernel) rfl
theorem cw_678 : Cond.selects "CellMapperModel" ⟨"CellMapperModel", "nodeOf", "(I)I"⟩ ⟨"CellMapperModel", "nodeOf", "(I)I"⟩ ∈ cx_tb := cx_in1 (i := 1107) (by decide +kernel) rfl
theorem cw_679 : Cond.methodLink "CellMapperLaw" 50 ⟨"CellMapper", "part", "(II)I"⟩ ∈ cx_tb := cx_in1 (i := 440) (by decide +kernel) rfl
theorem cw_680 : Cond.instanceMethod ⟨"CellMapper", "part", "(II)I"⟩ ∈ cx_tb := cx_in1 (i := 441) (by decide +kernel) rfl
theorem cw_681 : Cond.selects "CellMapper" ⟨"CellMapper", "part", "(II)I"⟩ ⟨"CellMapper", "part", "(II)I"⟩ ∈ cx_tb := cx_in1 (i := 442) (by decide +kernel) rfl
theorem cw_682 : Cond.methodLink "CellMapperLaw" 54 ⟨"CellMapperModel", "part", "(II)I"⟩ ∈ cx_tb := cx_in1 (i := 1109) (by decide +kernel) rfl
theorem cw_683 : Cond.instanceMethod ⟨"CellMapperModel", "part", "(II)I"⟩ ∈ cx_tb := cx_in1 (i := 1110) (by decide +kernel) rfl
theorem cw_684 : Cond.selects "CellMapperModel" ⟨"CellMapperModel", "part", "(II)I"⟩ ⟨"CellMapperModel", "part", "(II)I"⟩ ∈ cx_tb := cx_in1 (i := 1111) (by decide +kernel) rfl
theorem cw_685 : Cond.methodLink "CellMapperLaw" 55 ⟨"CellMapper", "map", "()I"⟩ ∈ cx_tb := cx_in1 (i := 456) (by decide +kernel) rfl
theorem cw_686 : Cond.instanceMethod ⟨"CellMapper", "map", "()I"⟩ ∈ cx_tb := cx_in1 (i := 457) (by decide +kernel) rfl
theorem cw_687 : Cond.selects "CellMapper" ⟨"CellMapper", "map", "()I"⟩ ⟨"CellMapper", "map", "()I"⟩ ∈ cx_tb := cx_in1 (i := 458) (by decide +kernel) rfl
theorem cw_688 : Cond.methodLink "CellMapperLaw" 58 ⟨"CellMapperModel", "map", "()I"⟩ ∈ cx_tb := cx_in1 (i := 1113) (by decide +kernel) rfl
theorem cw_689 : Cond.instanceMethod ⟨"CellMapperModel", "map", "()I"⟩ ∈ cx_tb := cx_in1 (i := 1114) (by decide +kernel) rfl
theorem cw_690 : Cond.selects "CellMapperModel" ⟨"CellMapperModel", "map", "()I"⟩ ⟨"CellMapperModel", "map", "()I"⟩ ∈ cx_tb := cx_in1 (i := 1115) (by decide +kernel) rfl
theorem cw_691 : Cond.methodLink "CellMapperLaw" 59 ⟨"CellMapper", "area", "()I"⟩ ∈ cx_tb := cx_in1 (i := 747) (by decide +kernel) rfl
theorem cw_692 : Cond.instanceMethod ⟨"CellMapper", "area", "()I"⟩ ∈ cx_tb := cx_in1 (i := 748) (by decide +kernel) rfl
theorem cw_693 : Cond.selects "CellMapper" ⟨"CellMapper", "area", "()I"⟩ ⟨"CellMapper", "area", "()I"⟩ ∈ cx_tb := cx_in1 (i := 749) (by decide +kernel) rfl
theorem cw_694 : Cond.methodLink "CellMapperLaw" 62 ⟨"CellMapperModel", "area", "()I"⟩ ∈ cx_tb := cx_in1 (i := 1214) (by decide +kernel) rfl
theorem cw_695 : Cond.instanceMethod ⟨"CellMapperModel", "area", "()I"⟩ ∈ cx_tb := cx_in1 (i := 1215) (by decide +kernel) rfl
theorem cw_696 : Cond.selects "CellMapperModel" ⟨"CellMapperModel", "area", "()I"⟩ ⟨"CellMapperModel", "area", "()I"⟩ ∈ cx_tb := cx_in1 (i := 1216) (by decide +kernel) rfl
theorem cw_697 : Cond.methodLink "CellMapperLaw" 63 ⟨"CellMapper", "cellAt", "(I)I"⟩ ∈ cx_tb := cx_in1 (i := 755) (by decide +kernel) rfl
theorem cw_698 : Cond.instanceMethod ⟨"CellMapper", "cellAt", "(I)I"⟩ ∈ cx_tb := cx_in1 (i := 756) (by decide +kernel) rfl
theorem cw_699 : Cond.selects "CellMapper" ⟨"CellMapper", "cellAt", "(I)I"⟩ ⟨"CellMapper", "cellAt", "(I)I"⟩ ∈ cx_tb := cx_in1 (i := 757) (by decide +kernel) rfl
theorem cw_700 : Cond.methodLink "CellMapperLaw" 66 ⟨"CellMapperModel", "cellAt", "(I)I"⟩ ∈ cx_tb := cx_in1 (i := 1218) (by decide +kernel) rfl
theorem cw_701 : Cond.instanceMethod ⟨"CellMapperModel", "cellAt", "(I)I"⟩ ∈ cx_tb := cx_in1 (i := 1219) (by decide +kernel) rfl
theorem cw_702 : Cond.selects "CellMapperModel" ⟨"CellMapperModel", "cellAt", "(I)I"⟩ ⟨"CellMapperModel", "cellAt", "(I)I"⟩ ∈ cx_tb := cx_in1 (i := 1220) (by decide +kernel) rfl
theorem cw_703 : Cond.methodLink "CellMapperLaw" 67 ⟨"CellMapper", "period", "()I"⟩ ∈ cx_tb := cx_in1 (i := 764) (by decide +kernel) rfl
theorem cw_704 : Cond.instanceMethod ⟨"CellMapper", "period", "()I"⟩ ∈ cx_tb := cx_in1 (i := 765) (by decide +kernel) rfl
theorem cw_705 : Cond.selects "CellMapper" ⟨"CellMapper", "period", "()I"⟩ ⟨"CellMapper", "period", "()I"⟩ ∈ cx_tb := cx_in1 (i := 766) (by decide +kernel) rfl
theorem cw_706 : Cond.methodLink "CellMapperLaw" 70 ⟨"CellMapperModel", "period", "()I"⟩ ∈ cx_tb := cx_in1 (i := 1226) (by decide +kernel) rfl
theorem cw_707 : Cond.instanceMethod ⟨"CellMapperModel", "period", "()I"⟩ ∈ cx_tb := cx_in1 (i := 1227) (by decide +kernel) rfl
theorem cw_708 : Cond.selects "CellMapperModel" ⟨"CellMapperModel", "period", "()I"⟩ ⟨"CellMapperModel", "period", "()I"⟩ ∈ cx_tb := cx_in1 (i := 1228) (by decide +kernel) rfl
theorem cw_709 : Cond.methodLink "CellMapperLaw" 71 ⟨"CellMapper", "shortest", "()I"⟩ ∈ cx_tb := cx_in1 (i := 772) (by decide +kernel) rfl
theorem cw_710 : Cond.instanceMethod ⟨"CellMapper", "shortest", "()I"⟩ ∈ cx_tb := cx_in1 (i := 773) (by decide +kernel) rfl
theorem cw_711 : Cond.selects "CellMapper" ⟨"CellMapper", "shortest", "()I"⟩ ⟨"CellMapper", "shortest", "()I"⟩ ∈ cx_tb := cx_in1 (i := 774) (by decide +kernel) rfl
theorem cw_712 : Cond.methodLink "CellMapperLaw" 74 ⟨"CellMapperModel", "shortest", "()I"⟩ ∈ cx_tb := cx_in1 (i := 1230) (by decide +kernel) rfl
theorem cw_713 : Cond.instanceMethod ⟨"CellMapperModel", "shortest", "()I"⟩ ∈ cx_tb := cx_in1 (i := 1231) (by decide +kernel) rfl
theorem cw_714 : Cond.selects "CellMapperModel" ⟨"CellMapperModel", "shortest", "()I"⟩ ⟨"CellMapperModel", "shortest", "()I"⟩ ∈ cx_tb := cx_in1 (i := 1232) (by decide +kernel) rfl
theorem cw_715 : Cond.methodLink "CellMapperLaw" 75 ⟨"CellMapper", "moves", "(I)I"⟩ ∈ cx_tb := cx_in1 (i := 780) (by decide +kernel) rfl
theorem cw_716 : Cond.instanceMethod ⟨"CellMapper", "moves", "(I)I"⟩ ∈ cx_tb := cx_in1 (i := 781) (by decide +kernel) rfl
theorem cw_717 : Cond.selects "CellMapper" ⟨"CellMapper", "moves", "(I)I"⟩ ⟨"CellMapper", "moves", "(I)I"⟩ ∈ cx_tb := cx_in1 (i := 782) (by decide +kernel) rfl
theorem cw_718 : Cond.methodLink "CellMapperLaw" 78 ⟨"CellMapperModel", "moves", "(I)I"⟩ ∈ cx_tb := cx_in1 (i := 1234) (by decide +kernel) rfl
theorem cw_719 : Cond.instanceMethod ⟨"CellMapperModel", "moves", "(I)I"⟩ ∈ cx_tb := cx_in1 (i := 1235) (by decide +kernel) rfl
theorem cw_720 : Cond.selects "CellMapperModel" ⟨"CellMapperModel", "moves", "(I)I"⟩ ⟨"CellMapperModel", "moves", "(I)I"⟩ ∈ cx_tb := cx_in1 (i := 1236) (by decide +kernel) rfl
theorem cw_721 : Cond.methodLink "CellMapperLaw" 79 ⟨"CellMapper", "latches", "(II)J"⟩ ∈ cx_tb := cx_in1 (i := 788) (by decide +kernel) rfl
theorem cw_722 : Cond.instanceMethod ⟨"CellMapper", "latches", "(II)J"⟩ ∈ cx_tb := cx_in1 (i := 789) (by decide +kernel) rfl
theorem cw_723 : Cond.selects "CellMapper" ⟨"CellMapper", "latches", "(II)J"⟩ ⟨"CellMapper", "latches", "(II)J"⟩ ∈ cx_tb := cx_in1 (i := 790) (by decide +kernel) rfl
theorem cw_724 : Cond.methodLink "CellMapperLaw" 83 ⟨"CellMapperModel", "latches", "(II)J"⟩ ∈ cx_tb := cx_in1 (i := 1238) (by decide +kernel) rfl
theorem cw_725 : Cond.instanceMethod ⟨"CellMapperModel", "latches", "(II)J"⟩ ∈ cx_tb := cx_in1 (i := 1239) (by decide +kernel) rfl
theorem cw_726 : Cond.selects "CellMapperModel" ⟨"CellMapperModel", "latches", "(II)J"⟩ ⟨"CellMapperModel", "latches", "(II)J"⟩ ∈ cx_tb := cx_in1 (i := 1240) (by decide +kernel) rfl
theorem cw_727 : Cond.methodLink "CellMapperLaw" 84 ⟨"CellMapper", "clock", "(I)I"⟩ ∈ cx_tb := cx_in1 (i := 813) (by decide +kernel) rfl
theorem cw_728 : Cond.instanceMethod ⟨"CellMapper", "clock", "(I)I"⟩ ∈ cx_tb := cx_in1 (i := 814) (by decide +kernel) rfl
theorem cw_729 : Cond.selects "CellMapper" ⟨"CellMapper", "clock", "(I)I"⟩ ⟨"CellMapper", "clock", "(I)I"⟩ ∈ cx_tb := cx_in1 (i := 815) (by decide +kernel) rfl
theorem cw_730 : Cond.methodLink "CellMapperLaw" 87 ⟨"CellMapperModel", "clock", "(I)I"⟩ ∈ cx_tb := cx_in1 (i := 1245) (by decide +kernel) rfl
theorem cw_731 : Cond.instanceMethod ⟨"CellMapperModel", "clock", "(I)I"⟩ ∈ cx_tb := cx_in1 (i := 1246) (by decide +kernel) rfl
theorem cw_732 : Cond.selects "CellMapperModel" ⟨"CellMapperModel", "clock", "(I)I"⟩ ⟨"CellMapperModel", "clock", "(I)I"⟩ ∈ cx_tb := cx_in1 (i := 1247) (by decide +kernel) rfl
theorem cw_733 : Cond.methodLink "CellMapperLaw" 88 ⟨"CellMapper", "clockRetimed", "(I)I"⟩ ∈ cx_tb := cx_in1 (i := 833) (by decide +kernel) rfl
theorem cw_734 : Cond.instanceMethod ⟨"CellMapper", "clockRetimed", "(I)I"⟩ ∈ cx_tb := cx_in1 (i := 834) (by decide +kernel) rfl
theorem cw_735 : Cond.selects "CellMapper" ⟨"CellMapper", "clockRetimed", "(I)I"⟩ ⟨"CellMapper", "clockRetimed", "(I)I"⟩ ∈ cx_tb := cx_in1 (i := 835) (by decide +kernel) rfl
theorem cw_736 : Cond.methodLink "CellMapperLaw" 91 ⟨"CellMapperModel", "clockRetimed", "(I)I"⟩ ∈ cx_tb := cx_in1 (i := 1253) (by decide +kernel) rfl
theorem cw_737 : Cond.instanceMethod ⟨"CellMapperModel", "clockRetimed", "(I)I"⟩ ∈ cx_tb := cx_in1 (i := 1254) (by decide +kernel) rfl
theorem cw_738 : Cond.selects "CellMapperModel" ⟨"CellMapperModel", "clockRetimed", "(I)I"⟩ ⟨"CellMapperModel", "clockRetimed", "(I)I"⟩ ∈ cx_tb := cx_in1 (i := 1255) (by decide +kernel) rfl
theorem cw_739 : Cond.methodLink "CellMapperLaw" 92 ⟨"CellMapper", "reset", "()V"⟩ ∈ cx_tb := cx_in1 (i := 863) (by decide +kernel) rfl
theorem cw_740 : Cond.instanceMethod ⟨"CellMapper", "reset", "()V"⟩ ∈ cx_tb := cx_in1 (i := 864) (by decide +kernel) rfl
theorem cw_741 : Cond.selects "CellMapper" ⟨"CellMapper", "reset", "()V"⟩ ⟨"CellMapper", "reset", "()V"⟩ ∈ cx_tb := cx_in1 (i := 865) (by decide +kernel) rfl
theorem cw_742 : Cond.methodLink "CellMapperLaw" 95 ⟨"CellMapperModel", "reset", "()V"⟩ ∈ cx_tb := cx_in1 (i := 1269) (by decide +kernel) rfl
theorem cw_743 : Cond.instanceMethod ⟨"CellMapperModel", "reset", "()V"⟩ ∈ cx_tb := cx_in1 (i := 1270) (by decide +kernel) rfl
theorem cw_744 : Cond.selects "CellMapperModel" ⟨"CellMapperModel", "reset", "()V"⟩ ⟨"CellMapperModel", "reset", "()V"⟩ ∈ cx_tb := cx_in1 (i := 1271) (by decide +kernel) rfl
theorem cw_745 : Cond.methodLink "CellMapper" 87 ⟨"CellMapper", "isTable", "(II)Z"⟩ ∈ cx_tb := cx_in1 (i := 347) (by decide +kernel) rfl
theorem cw_746 : Cond.static ⟨"CellMapper", "isTable", "(II)Z"⟩ ∈ cx_tb := cx_in1 (i := 348) (by decide +kernel) rfl
theorem cw_747 : Cond.methodLink "CellMapper$Circuit" 78 ⟨"CellMapper$Circuit", "tableNode", "(LCellMapper$Graph;[III)I"⟩ ∈ cx_tb := cx_in1 (i := 355) (by decide +kernel) rfl
theorem cw_748 : Cond.static ⟨"CellMapper$Circuit", "tableNode", "(LCellMapper$Graph;[III)I"⟩ ∈ cx_tb := cx_in1 (i := 356) (by decide +kernel) rfl
theorem cw_749 : Cond.methodLink "CellMapper$Circuit" 112 ⟨"CellMapper$Circuit", "isConstant", "(II)Z"⟩ ∈ cx_tb := cx_in1 (i := 358) (by decide +kernel) rfl
theorem cw_750 : Cond.static ⟨"CellMapper$Circuit", "isConstant", "(II)Z"⟩ ∈ cx_tb := cx_in1 (i := 359) (by decide +kernel) rfl
theorem cw_751 : Cond.methodLink "CellMapper$Circuit" 116 ⟨"CellMapper$Circuit", "joinHalves", "(LCellMapper$Graph;IZZII)I"⟩ ∈ cx_tb := cx_in1 (i := 361) (by decide +kernel) rfl
theorem cw_752 : Cond.static ⟨"CellMapper$Circuit", "joinHalves", "(LCellMapper$Graph;IZZII)I"⟩ ∈ cx_tb := cx_in1 (i := 362) (by decide +kernel) rfl
theorem cw_753 : Cond.methodLink "CellMapper$Library" 34 ⟨"CellMapper$Library", "digitOf", "(II)I"⟩ ∈ cx_tb := cx_in1 (i := 414) (by decide +kernel) rfl
theorem cw_754 : Cond.static ⟨"CellMapper$Library", "digitOf", "(II)I"⟩ ∈ cx_tb := cx_in1 (i := 415) (by decide +kernel) rfl
theorem cw_755 : Cond.methodLink "CellMapper$Library" 42 ⟨"CellMapper$Library", "isPattern", "(I)Z"⟩ ∈ cx_tb := cx_in1 (i := 411) (by decide +kernel) rfl
theorem cw_756 : Cond.static ⟨"CellMapper$Library", "isPattern", "(I)Z"⟩ ∈ cx_tb := cx_in1 (i := 412) (by decide +kernel) rfl
theorem cw_757 : Cond.methodLink "CellMapper$Library" 45 ⟨"CellMapper$Library", "countDigits", "(II)I"⟩ ∈ cx_tb := cx_in1 (i := 417) (by decide +kernel) rfl
theorem cw_758 : Cond.static ⟨"CellMapper$Library", "countDigits", "(II)I"⟩ ∈ cx_tb := cx_in1 (i := 418) (by decide +kernel) rfl
theorem cw_759 : Cond.methodLink "CellMapper$Library" 48 ⟨"CellMapper$Library", "tableOf", "(II)I"⟩ ∈ cx_tb := cx_in1 (i := 420) (by decide +kernel) rfl
theorem cw_760 : Cond.static ⟨"CellMapper$Library", "tableOf", "(II)I"⟩ ∈ cx_tb := cx_in1 (i := 421) (by decide +kernel) rfl
theorem cw_761 : Cond.methodLink "CellMapper$Library" 51 ⟨"CellMapper$Library", "valueOf", "(III)I"⟩ ∈ cx_tb := cx_in1 (i := 423) (by decide +kernel) rfl
theorem cw_762 : Cond.static ⟨"CellMapper$Library", "valueOf", "(III)I"⟩ ∈ cx_tb := cx_in1 (i := 424) (by decide +kernel) rfl
theorem cw_763 : Cond.methodLink "CellMapper$Cover" 118 ⟨"java/util/Arrays", "fill", "([II)V"⟩ ∈ cx_tb := cx_in1 (i := 513) (by decide +kernel) rfl
theorem cw_764 : Cond.static ⟨"java/util/Arrays", "fill", "([II)V"⟩ ∈ cx_tb := cx_in1 (i := 514) (by decide +kernel) rfl
theorem cw_765 : Cond.initialized "java/util/Arrays" ∈ cx_tb := cx_in1 (i := 11) (by decide +kernel) rfl
theorem cw_766 : Cond.methodLink "CellMapper$Retiming" 36 ⟨"java/util/Arrays", "fill", "([II)V"⟩ ∈ cx_tb := cx_in1 (i := 632) (by decide +kernel) rfl
theorem cw_767 : Cond.methodLink "CellMapperModel" 162 ⟨"CellMapperModel", "flat", "(II)I"⟩ ∈ cx_tb := cx_in1 (i := 1083) (by decide +kernel) rfl
theorem cw_768 : Cond.static ⟨"CellMapperModel", "flat", "(II)I"⟩ ∈ cx_tb := cx_in1 (i := 1084) (by decide +kernel) rfl
theorem cw_769 : Cond.methodLink "CellMapperModel" 197 ⟨"CellMapperModel", "isPattern", "(I)Z"⟩ ∈ cx_tb := cx_in1 (i := 1098) (by decide +kernel) rfl
theorem cw_770 : Cond.static ⟨"CellMapperModel", "isPattern", "(I)Z"⟩ ∈ cx_tb := cx_in1 (i := 1099) (by decide +kernel) rfl
theorem cw_771 : Cond.methodLink "CellMapper" 9 ⟨"CellMapper$Graph", "<init>", "()V"⟩ ∈ cx_tb := cx_in1 (i := 23) (by decide +kernel) rfl
theorem cw_772 : Cond.instanceMethod ⟨"CellMapper$Graph", "<init>", "()V"⟩ ∈ cx_tb := cx_in1 (i := 24) (by decide +kernel) rfl
theorem cw_773 : Cond.methodLink "CellMapper" 18 ⟨"CellMapper$Circuit", "<init>", "(LCellMapper$Graph;)V"⟩ ∈ cx_tb := cx_in1 (i := 46) (by decide +kernel) rfl
theorem cw_774 : Cond.instanceMethod ⟨"CellMapper$Circuit", "<init>", "(LCellMapper$Graph;)V"⟩ ∈ cx_tb := cx_in1 (i := 47) (by decide +kernel) rfl
theorem cw_775 : Cond.methodLink "CellMapper" 27 ⟨"CellMapper$Library", "<init>", "()V"⟩ ∈ cx_tb := cx_in1 (i := 92) (by decide +kernel) rfl
theorem cw_776 : Cond.instanceMethod ⟨"CellMapper$Library", "<init>", "()V"⟩ ∈ cx_tb := cx_in1 (i := 93) (by decide +kernel) rfl
theorem cw_777 : Cond.methodLink "CellMapper" 34 ⟨"CellMapper$Cover", "<init>", "(LCellMapper$Graph;LCellMapper$Circuit;LCellMapper$Library;)V"⟩ ∈ cx_tb := cx_in1 (i := 120) (by decide +kernel) rfl
theorem cw_778 : Cond.instanceMethod ⟨"CellMapper$Cover", "<init>", "(LCellMapper$Graph;LCellMapper$Circuit;LCellMapper$Library;)V"⟩ ∈ cx_tb := cx_in1 (i := 121) (by decide +kernel) rfl
theorem cw_779 : Cond.methodLink "CellMapper" 43 ⟨"CellMapper$Connections", "<init>", "(LCellMapper$Graph;LCellMapper$Circuit;LCellMapper$Cover;)V"⟩ ∈ cx_tb := cx_in1 (i := 167) (by decide +kernel) rfl
theorem cw_780 : Cond.instanceMethod ⟨"CellMapper$Connections", "<init>", "(LCellMapper$Graph;LCellMapper$Circuit;LCellMapper$Cover;)V"⟩ ∈ cx_tb := cx_in1 (i := 168) (by decide +kernel) rfl
theorem cw_781 : Cond.methodLink "CellMapper" 52 ⟨"CellMapper$Retiming", "<init>", "(LCellMapper$Cover;LCellMapper$Connections;)V"⟩ ∈ cx_tb := cx_in1 (i := 205) (by decide +kernel) rfl
theorem cw_782 : Cond.instanceMethod ⟨"CellMapper$Retiming", "<init>", "(LCellMapper$Cover;LCellMapper$Connections;)V"⟩ ∈ cx_tb := cx_in1 (i := 206) (by decide +kernel) rfl
theorem cw_783 : Cond.methodLink "CellMapper" 61 ⟨"CellMapper$Machine", "<init>", "(LCellMapper$Graph;LCellMapper$Circuit;LCellMapper$Cover;LCellMapper$Connections;)V"⟩ ∈ cx_tb := cx_in1 (i := 233) (by decide +kernel) rfl
theorem cw_784 : Cond.instanceMethod ⟨"CellMapper$Machine", "<init>", "(LCellMapper$Graph;LCellMapper$Circuit;LCellMapper$Cover;LCellMapper$Connections;)V"⟩ ∈ cx_tb := cx_in1 (i := 234) (by decide +kernel) rfl
theorem cw_785 : Cond.methodLink "CellMapperLaw" 9 ⟨"CellMapper", "<init>", "()V"⟩ ∈ cx_tb := cx_in1 (i := 15) (by decide +kernel) rfl
theorem cw_786 : Cond.instanceMethod ⟨"CellMapper", "<init>", "()V"⟩ ∈ cx_tb := cx_in1 (i := 16) (by decide +kernel) rfl
theorem cw_787 : Cond.methodLink "CellMapperLaw" 12 ⟨"CellMapperModel", "<init>", "()V"⟩ ∈ cx_tb := cx_in1 (i := 869) (by decide +kernel) rfl
theorem cw_788 : Cond.instanceMethod ⟨"CellMapperModel", "<init>", "()V"⟩ ∈ cx_tb := cx_in1 (i := 870) (by decide +kernel) rfl
theorem cw_789 : Cond.methodLink "CellMapper" 1 ⟨"java/lang/Object", "<init>", "()V"⟩ ∈ cx_tb := cx_in1 (i := 18) (by decide +kernel) rfl
theorem cw_790 : Cond.instanceMethod ⟨"java/lang/Object", "<init>", "()V"⟩ ∈ cx_tb := cx_in1 (i := 19) (by decide +kernel) rfl
theorem cw_791 : Cond.methodLink "CellMapper$Graph" 3 ⟨"java/lang/Object", "<init>", "()V"⟩ ∈ cx_tb := cx_in1 (i := 26) (by decide +kernel) rfl
theorem cw_792 : Cond.methodLink "CellMapper$Circuit" 3 ⟨"java/lang/Object", "<init>", "()V"⟩ ∈ cx_tb := cx_in1 (i := 49) (by decide +kernel) rfl
theorem cw_793 : Cond.methodLink "CellMapper$Library" 3 ⟨"java/lang/Object", "<init>", "()V"⟩ ∈ cx_tb := cx_in1 (i := 95) (by decide +kernel) rfl
theorem cw_794 : Cond.methodLink "CellMapper$Cover" 3 ⟨"java/lang/Object", "<init>", "()V"⟩ ∈ cx_tb := cx_in1 (i := 123) (by decide +kernel) rfl
theorem cw_795 : Cond.methodLink "CellMapper$Connections" 3 ⟨"java/lang/Object", "<init>", "()V"⟩ ∈ cx_tb := cx_in1 (i := 170) (by decide +kernel) rfl
theorem cw_796 : Cond.methodLink "CellMapper$Retiming" 3 ⟨"java/lang/Object", "<init>", "()V"⟩ ∈ cx_tb := cx_in1 (i := 208) (by decide +kernel) rfl
theorem cw_797 : Cond.methodLink "CellMapper$Machine" 3 ⟨"java/lang/Object", "<init>", "()V"⟩ ∈ cx_tb := cx_in1 (i := 236) (by decide +kernel) rfl
theorem cw_798 : Cond.methodLink "CellMapperModel" 1 ⟨"java/lang/Object", "<init>", "()V"⟩ ∈ cx_tb := cx_in1 (i := 872) (by decide +kernel) rfl
theorem cw_799 : Cond.methodLink "CellMapper$Graph" 49 ⟨"java/lang/Math", "max", "(II)I"⟩ ∈ cx_tb := cx_in1 (i := 384) (by decide +kernel) rfl
theorem cw_800 : Cond.static ⟨"java/lang/Math", "max", "(II)I"⟩ ∈ cx_tb := cx_in1 (i := 385) (by decide +kernel) rfl
theorem cw_801 : Cond.initialized "java/lang/Math" ∈ cx_tb := cx_in1 (i := 10) (by decide +kernel) rfl
theorem cw_802 : Cond.methodLink "CellMapper$Retiming" 78 ⟨"java/lang/Math", "max", "(II)I"⟩ ∈ cx_tb := cx_in1 (i := 675) (by decide +kernel) rfl
theorem cw_803 : Cond.methodLink "CellMapper$Graph" 43 ⟨"java/lang/Math", "min", "(II)I"⟩ ∈ cx_tb := cx_in1 (i := 381) (by decide +kernel) rfl
theorem cw_804 : Cond.static ⟨"java/lang/Math", "min", "(II)I"⟩ ∈ cx_tb := cx_in1 (i := 382) (by decide +kernel) rfl
theorem cw_805 : Cond.methodLink "CellMapper$Cover" 149 ⟨"java/lang/System", "arraycopy", "(Ljava/lang/Object;ILjava/lang/Object;II)V"⟩ ∈ cx_tb := cx_in1 (i := 573) (by decide +kernel) rfl
theorem cw_806 : Cond.native ⟨"java/lang/System", "arraycopy", "(Ljava/lang/Object;ILjava/lang/Object;II)V"⟩ ∈ cx_tb := cx_in1 (i := 575) (by decide +kernel) rfl
theorem cw_807 : Cond.static ⟨"java/lang/System", "arraycopy", "(Ljava/lang/Object;ILjava/lang/Object;II)V"⟩ ∈ cx_tb := cx_in1 (i := 574) (by decide +kernel) rfl
theorem cw_808 : Cond.initialized "java/lang/System" ∈ cx_tb := cx_in1 (i := 12) (by decide +kernel) rfl
theorem cw_809 : Cond.methodLink "CellMapper$Retiming" 62 ⟨"java/lang/System", "arraycopy", "(Ljava/lang/Object;ILjava/lang/Object;II)V"⟩ ∈ cx_tb := cx_in1 (i := 688) (by decide +kernel) rfl
