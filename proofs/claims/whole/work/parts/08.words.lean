/-! 08: words of the tables by their places; the methods -/
theorem tk_0 : Cond.selects "ThreeHeirs$Reader" yX5_skipBlanks yX5_skipBlanks ∈ TW := tw 0 (by decide +kernel) (by decide +kernel)
theorem tk_1 : Cond.selects "ThreeHeirs$Reader" yX5_readClause yX5_readClause ∈ TW := tw 1 (by decide +kernel) (by decide +kernel)
theorem tk_2 : Cond.selects "ThreeHeirs$Reader" yX5_accuse yX5_accuse ∈ TW := tw 2 (by decide +kernel) (by decide +kernel)
theorem tk_3 : Cond.selects "ThreeHeirs$Reader" yX5_readDay yX5_readDay ∈ TW := tw 3 (by decide +kernel) (by decide +kernel)
theorem tk_4 : Cond.selects "ThreeHeirs$Reader" yX5_readNumber yX5_readNumber ∈ TW := tw 4 (by decide +kernel) (by decide +kernel)
theorem tk_5 : Cond.selects "ThreeHeirs$Reader" yX5_readSeasons yX5_readSeasons ∈ TW := tw 5 (by decide +kernel) (by decide +kernel)
theorem tk_6 : Cond.selects "ThreeHeirs$Reader" yX5_readThing yX5_readThing ∈ TW := tw 6 (by decide +kernel) (by decide +kernel)
theorem tk_7 : Cond.selects "ThreeHeirs$Reader" yX5_readLand yX5_readLand ∈ TW := tw 7 (by decide +kernel) (by decide +kernel)
theorem tk_8 : Cond.selects "ThreeHeirs$Reader" yX5_readWant yX5_readWant ∈ TW := tw 8 (by decide +kernel) (by decide +kernel)
theorem tk_9 : Cond.selects "ThreeHeirs$Reader" yX5_readEnd yX5_readEnd ∈ TW := tw 9 (by decide +kernel) (by decide +kernel)
theorem tk_10 : Cond.selects "ThreeHeirs" yX7_startAnew yX7_startAnew ∈ TW := tw 10 (by decide +kernel) (by decide +kernel)
theorem tk_11 : Cond.selects "ThreeHeirs$County" yX1_seasonOf yX1_seasonOf ∈ TW := tw 11 (by decide +kernel) (by decide +kernel)
theorem tk_12 : Cond.selects "ThreeHeirs$Estate" yX2_isMet yX2_isMet ∈ TW := tw 12 (by decide +kernel) (by decide +kernel)
theorem tk_13 : Cond.selects "ThreeHeirs" yX7_isThing yX7_isThing ∈ TW := tw 13 (by decide +kernel) (by decide +kernel)
theorem tk_14 : Cond.selects "ThreeHeirs" yX7_refusalOfHours yX7_refusalOfHours ∈ TW := tw 14 (by decide +kernel) (by decide +kernel)
theorem tk_15 : Cond.selects "ThreeHeirs$Estate" yX2_unmetWants yX2_unmetWants ∈ TW := tw 15 (by decide +kernel) (by decide +kernel)
theorem tk_16 : Cond.selects "ThreeHeirs" yX7_meetChance yX7_meetChance ∈ TW := tw 16 (by decide +kernel) (by decide +kernel)
theorem tk_17 : Cond.selects "ThreeHeirs" yX7_draw yX7_draw ∈ TW := tw 17 (by decide +kernel) (by decide +kernel)
theorem tk_18 : Cond.selects "ThreeHeirs" yX7_startFor yX7_startFor ∈ TW := tw 18 (by decide +kernel) (by decide +kernel)
theorem tk_19 : Cond.selects "ThreeHeirs$County" yX1_voices yX1_voices ∈ TW := tw 19 (by decide +kernel) (by decide +kernel)
theorem tk_20 : Cond.selects "ThreeHeirs$Finds" yX3_fit yX3_fit ∈ TW := tw 20 (by decide +kernel) (by decide +kernel)
theorem tk_21 : Cond.selects "ThreeHeirsModel" yX8_readsCounty yX8_readsCounty ∈ TW := tw 21 (by decide +kernel) (by decide +kernel)
theorem tk_22 : Cond.selects "ThreeHeirsModel" yX8_nextLetter yX8_nextLetter ∈ TW := tw 22 (by decide +kernel) (by decide +kernel)
theorem tk_23 : Cond.selects "ThreeHeirsModel" yX8_letterAt yX8_letterAt ∈ TW := tw 23 (by decide +kernel) (by decide +kernel)
theorem tk_24 : Cond.selects "ThreeHeirsModel" yX8_readsClause yX8_readsClause ∈ TW := tw 24 (by decide +kernel) (by decide +kernel)
theorem tk_25 : Cond.selects "ThreeHeirsModel" yX8_readsHead yX8_readsHead ∈ TW := tw 25 (by decide +kernel) (by decide +kernel)
theorem tk_26 : Cond.selects "ThreeHeirsModel" yX8_readsNumber yX8_readsNumber ∈ TW := tw 26 (by decide +kernel) (by decide +kernel)
theorem tk_27 : Cond.selects "ThreeHeirsModel" yX8_fails yX8_fails ∈ TW := tw 27 (by decide +kernel) (by decide +kernel)
theorem tk_28 : Cond.selects "ThreeHeirsModel" yX8_readsSign yX8_readsSign ∈ TW := tw 28 (by decide +kernel) (by decide +kernel)
theorem tk_29 : Cond.selects "ThreeHeirsModel" yX8_isAgain yX8_isAgain ∈ TW := tw 29 (by decide +kernel) (by decide +kernel)
theorem tk_30 : Cond.selects "ThreeHeirsModel" yX8_readsSeasons yX8_readsSeasons ∈ TW := tw 30 (by decide +kernel) (by decide +kernel)
theorem tk_31 : Cond.selects "ThreeHeirsModel" yX8_readsThing yX8_readsThing ∈ TW := tw 31 (by decide +kernel) (by decide +kernel)
theorem tk_32 : Cond.selects "ThreeHeirsModel" yX8_readsLand yX8_readsLand ∈ TW := tw 32 (by decide +kernel) (by decide +kernel)
theorem tk_33 : Cond.selects "ThreeHeirsModel" yX8_readsWant yX8_readsWant ∈ TW := tw 33 (by decide +kernel) (by decide +kernel)
theorem tk_34 : Cond.selects "ThreeHeirsModel" yX8_isCounty yX8_isCounty ∈ TW := tw 34 (by decide +kernel) (by decide +kernel)
theorem tk_35 : Cond.selects "ThreeHeirsModel" yX8_heirOf yX8_heirOf ∈ TW := tw 35 (by decide +kernel) (by decide +kernel)
theorem tk_36 : Cond.selects "ThreeHeirsModel" yX8_almanac yX8_almanac ∈ TW := tw 36 (by decide +kernel) (by decide +kernel)
theorem tk_37 : Cond.selects "ThreeHeirsModel" yX8_holds yX8_holds ∈ TW := tw 37 (by decide +kernel) (by decide +kernel)
theorem tk_38 : Cond.selects "ThreeHeirsModel" yX8_lightFrom yX8_lightFrom ∈ TW := tw 38 (by decide +kernel) (by decide +kernel)
theorem tk_39 : Cond.selects "ThreeHeirsModel" yX8_seasonOf yX8_seasonOf ∈ TW := tw 39 (by decide +kernel) (by decide +kernel)
theorem tk_40 : Cond.selects "ThreeHeirsModel" yX8_lightTo yX8_lightTo ∈ TW := tw 40 (by decide +kernel) (by decide +kernel)
theorem tk_41 : Cond.selects "ThreeHeirsModel" yX8_met yX8_met ∈ TW := tw 41 (by decide +kernel) (by decide +kernel)
theorem tk_42 : Cond.selects "ThreeHeirsModel" yX8_isMet yX8_isMet ∈ TW := tw 42 (by decide +kernel) (by decide +kernel)
theorem tk_43 : Cond.selects "ThreeHeirsModel" yX8_notes yX8_notes ∈ TW := tw 43 (by decide +kernel) (by decide +kernel)
theorem tk_44 : Cond.selects "ThreeHeirsModel" yX8_wrongAbout yX8_wrongAbout ∈ TW := tw 44 (by decide +kernel) (by decide +kernel)
theorem tk_45 : Cond.selects "ThreeHeirsModel" yX8_envy yX8_envy ∈ TW := tw 45 (by decide +kernel) (by decide +kernel)
theorem tk_46 : Cond.selects "ThreeHeirsModel" yX8_wantsOf yX8_wantsOf ∈ TW := tw 46 (by decide +kernel) (by decide +kernel)
theorem tk_47 : Cond.selects "ThreeHeirsModel" yX8_isThing yX8_isThing ∈ TW := tw 47 (by decide +kernel) (by decide +kernel)
theorem tk_48 : Cond.selects "ThreeHeirsModel" yX8_needHours yX8_needHours ∈ TW := tw 48 (by decide +kernel) (by decide +kernel)
theorem tk_49 : Cond.selects "ThreeHeirsModel" yX8_remember yX8_remember ∈ TW := tw 49 (by decide +kernel) (by decide +kernel)
theorem tk_50 : Cond.selects "ThreeHeirsModel" yX8_passes yX8_passes ∈ TW := tw 50 (by decide +kernel) (by decide +kernel)
theorem tk_51 : Cond.selects "ThreeHeirsModel" yX8_comes yX8_comes ∈ TW := tw 51 (by decide +kernel) (by decide +kernel)
theorem tk_52 : Cond.selects "ThreeHeirsModel" yX8_sets yX8_sets ∈ TW := tw 52 (by decide +kernel) (by decide +kernel)
theorem tk_53 : Cond.selects "ThreeHeirsModel" yX8_draw yX8_draw ∈ TW := tw 53 (by decide +kernel) (by decide +kernel)
theorem tk_54 : Cond.selects "ThreeHeirsModel" yX8_heirIn yX8_heirIn ∈ TW := tw 54 (by decide +kernel) (by decide +kernel)
theorem tk_55 : Cond.selects "ThreeHeirsModel" yX8_comesTo yX8_comesTo ∈ TW := tw 55 (by decide +kernel) (by decide +kernel)
theorem tk_56 : Cond.selects "ThreeHeirsModel" yX8_leastFor yX8_leastFor ∈ TW := tw 56 (by decide +kernel) (by decide +kernel)
theorem tk_57 : Cond.selects "ThreeHeirsModel" yX8_mostWanted yX8_mostWanted ∈ TW := tw 57 (by decide +kernel) (by decide +kernel)
theorem tk_58 : Cond.selects "ThreeHeirsModel" yX8_wanted yX8_wanted ∈ TW := tw 58 (by decide +kernel) (by decide +kernel)
theorem tk_59 : Cond.selects "ThreeHeirsModel" yX8_needWhat yX8_needWhat ∈ TW := tw 59 (by decide +kernel) (by decide +kernel)
theorem tk_60 : Cond.selects "ThreeHeirsModel" yX8_isFit yX8_isFit ∈ TW := tw 60 (by decide +kernel) (by decide +kernel)
theorem tk_61 : Cond.selects "ThreeHeirsModel" yX8_valueBy yX8_valueBy ∈ TW := tw 61 (by decide +kernel) (by decide +kernel)
theorem tk_62 : Cond.selects "ThreeHeirsModel" yX8_alike yX8_alike ∈ TW := tw 62 (by decide +kernel) (by decide +kernel)
theorem tk_64 : Cond.initialized "ThreeHeirs" ∈ TW := tw 64 (by decide +kernel) (by decide +kernel)
theorem tk_65 : Cond.initialized "ThreeHeirs$Script" ∈ TW := tw 65 (by decide +kernel) (by decide +kernel)
theorem tk_66 : Cond.initialized "ThreeHeirs$Reader" ∈ TW := tw 66 (by decide +kernel) (by decide +kernel)
theorem tk_67 : Cond.initialized "ThreeHeirs$County" ∈ TW := tw 67 (by decide +kernel) (by decide +kernel)
theorem tk_68 : Cond.initialized "ThreeHeirs$Estate" ∈ TW := tw 68 (by decide +kernel) (by decide +kernel)
theorem tk_69 : Cond.initialized "ThreeHeirs$Past" ∈ TW := tw 69 (by decide +kernel) (by decide +kernel)
theorem tk_70 : Cond.initialized "ThreeHeirs$Finds" ∈ TW := tw 70 (by decide +kernel) (by decide +kernel)
theorem tk_71 : Cond.initialized "ThreeHeirs$Book" ∈ TW := tw 71 (by decide +kernel) (by decide +kernel)
theorem tk_72 : Cond.initialized "ThreeHeirsModel" ∈ TW := tw 72 (by decide +kernel) (by decide +kernel)
theorem tk_74 : Cond.initialized "java/lang/Integer" ∈ TW := tw 74 (by decide +kernel) (by decide +kernel)
theorem tk_76 : Cond.classLink "ThreeHeirsLaw" 7 "ThreeHeirs" ∈ TW := tw 76 (by decide +kernel) (by decide +kernel)
theorem tk_77 : Cond.instantiable "ThreeHeirs" 12 ∈ TW := tw 77 (by decide +kernel) (by decide +kernel)
theorem tk_78 : Cond.methodLink "ThreeHeirsLaw" 9 yX7_init ∈ TW := tw 78 (by decide +kernel) (by decide +kernel)
theorem tk_79 : Cond.instanceMethod yX7_init ∈ TW := tw 79 (by decide +kernel) (by decide +kernel)
theorem tk_80 : Cond.code yX7_init cX7_init 2 none ∈ TW := tw 80 (by decide +kernel) (by decide +kernel)
theorem tk_81 : Cond.methodLink "ThreeHeirs" 1 Lib.objectInit ∈ TW := tw 81 (by decide +kernel) (by decide +kernel)
theorem tk_84 : Cond.classLink "ThreeHeirs" 7 "ThreeHeirs$Script" ∈ TW := tw 84 (by decide +kernel) (by decide +kernel)
theorem tk_85 : Cond.instantiable "ThreeHeirs$Script" 2 ∈ TW := tw 85 (by decide +kernel) (by decide +kernel)
theorem tk_86 : Cond.methodLinkNest "ThreeHeirs" 9 yX6_init "ThreeHeirs" ∈ NW := nw 86 (by decide +kernel) (by decide +kernel)
theorem tk_87 : Cond.instanceMethod yX6_init ∈ TW := tw 87 (by decide +kernel) (by decide +kernel)
theorem tk_88 : Cond.code yX6_init cX6_init 1 none ∈ TW := tw 88 (by decide +kernel) (by decide +kernel)
theorem tk_89 : Cond.methodLink "ThreeHeirs$Script" 3 Lib.objectInit ∈ TW := tw 89 (by decide +kernel) (by decide +kernel)
theorem tk_90 : Cond.fieldLink "ThreeHeirs$Script" 9 "ThreeHeirs$Script" "letters" "[I" ∈ TW := tw 90 (by decide +kernel) (by decide +kernel)
theorem tk_91 : Cond.fieldLink "ThreeHeirs$Script" 15 "ThreeHeirs$Script" "length" "I" ∈ TW := tw 91 (by decide +kernel) (by decide +kernel)
theorem tk_92 : Cond.fieldLinkNest "ThreeHeirs" 81 "ThreeHeirs$Script" "length" "I" "ThreeHeirs" ∈ NW := nw 92 (by decide +kernel) (by decide +kernel)
theorem tk_93 : Cond.fieldLinkNest "ThreeHeirs$Reader" 38 "ThreeHeirs$Script" "length" "I" "ThreeHeirs" ∈ NW := nw 93 (by decide +kernel) (by decide +kernel)
theorem tk_100 : Cond.classLink "ThreeHeirs" 16 "ThreeHeirs$Reader" ∈ TW := tw 100 (by decide +kernel) (by decide +kernel)
theorem tk_101 : Cond.instantiable "ThreeHeirs$Reader" 5 ∈ TW := tw 101 (by decide +kernel) (by decide +kernel)
theorem tk_102 : Cond.methodLink "ThreeHeirs" 18 yX5_init ∈ TW := tw 102 (by decide +kernel) (by decide +kernel)
theorem tk_103 : Cond.instanceMethod yX5_init ∈ TW := tw 103 (by decide +kernel) (by decide +kernel)
theorem tk_104 : Cond.code yX5_init cX5_init 2 none ∈ TW := tw 104 (by decide +kernel) (by decide +kernel)
theorem tk_105 : Cond.methodLink "ThreeHeirs$Reader" 3 Lib.objectInit ∈ TW := tw 105 (by decide +kernel) (by decide +kernel)
theorem tk_106 : Cond.classLink "ThreeHeirs$Reader" 9 "ThreeHeirs$County" ∈ TW := tw 106 (by decide +kernel) (by decide +kernel)
theorem tk_107 : Cond.instantiable "ThreeHeirs$County" 14 ∈ TW := tw 107 (by decide +kernel) (by decide +kernel)
theorem tk_108 : Cond.methodLinkNest "ThreeHeirs$Reader" 11 yX1_init "ThreeHeirs" ∈ NW := nw 108 (by decide +kernel) (by decide +kernel)
theorem tk_109 : Cond.instanceMethod yX1_init ∈ TW := tw 109 (by decide +kernel) (by decide +kernel)
theorem tk_110 : Cond.code yX1_init cX1_init 1 none ∈ TW := tw 110 (by decide +kernel) (by decide +kernel)
theorem tk_111 : Cond.methodLink "ThreeHeirs$County" 3 Lib.objectInit ∈ TW := tw 111 (by decide +kernel) (by decide +kernel)
theorem tk_112 : Cond.fieldLink "ThreeHeirs$County" 30 "ThreeHeirs$County" "exists" "Z" ∈ TW := tw 112 (by decide +kernel) (by decide +kernel)
theorem tk_113 : Cond.fieldLinkNest "ThreeHeirs$Estate" 51 "ThreeHeirs$County" "exists" "Z" "ThreeHeirs" ∈ NW := nw 113 (by decide +kernel) (by decide +kernel)
theorem tk_114 : Cond.fieldLinkNest "ThreeHeirs" 116 "ThreeHeirs$County" "exists" "Z" "ThreeHeirs" ∈ NW := nw 114 (by decide +kernel) (by decide +kernel)
theorem tk_115 : Cond.fieldLinkNest "ThreeHeirs$Reader" 54 "ThreeHeirs$County" "exists" "Z" "ThreeHeirs" ∈ NW := nw 115 (by decide +kernel) (by decide +kernel)
theorem tk_116 : Cond.fieldLink "ThreeHeirs$County" 34 "ThreeHeirs$County" "sunrise" "I" ∈ TW := tw 116 (by decide +kernel) (by decide +kernel)
theorem tk_117 : Cond.fieldLink "ThreeHeirs$County" 38 "ThreeHeirs$County" "dark" "I" ∈ TW := tw 117 (by decide +kernel) (by decide +kernel)
theorem tk_118 : Cond.fieldLink "ThreeHeirs$County" 41 "ThreeHeirs$County" "rent" "I" ∈ TW := tw 118 (by decide +kernel) (by decide +kernel)
theorem tk_119 : Cond.fieldLinkNest "ThreeHeirs$Estate" 68 "ThreeHeirs$County" "rent" "I" "ThreeHeirs" ∈ NW := nw 119 (by decide +kernel) (by decide +kernel)
theorem tk_120 : Cond.fieldLinkNest "ThreeHeirs" 239 "ThreeHeirs$County" "rent" "I" "ThreeHeirs" ∈ NW := nw 120 (by decide +kernel) (by decide +kernel)
theorem tk_121 : Cond.fieldLink "ThreeHeirs$County" 44 "ThreeHeirs$County" "seasonCount" "I" ∈ TW := tw 121 (by decide +kernel) (by decide +kernel)
theorem tk_122 : Cond.fieldLinkNest "ThreeHeirs" 126 "ThreeHeirs$County" "seasonCount" "I" "ThreeHeirs" ∈ NW := nw 122 (by decide +kernel) (by decide +kernel)
theorem tk_123 : Cond.fieldLink "ThreeHeirs$County" 47 "ThreeHeirs$County" "thingCount" "I" ∈ TW := tw 123 (by decide +kernel) (by decide +kernel)
theorem tk_124 : Cond.fieldLinkNest "ThreeHeirs$Estate" 37 "ThreeHeirs$County" "thingCount" "I" "ThreeHeirs" ∈ NW := nw 124 (by decide +kernel) (by decide +kernel)
theorem tk_125 : Cond.fieldLinkNest "ThreeHeirs" 106 "ThreeHeirs$County" "thingCount" "I" "ThreeHeirs" ∈ NW := nw 125 (by decide +kernel) (by decide +kernel)
theorem tk_126 : Cond.fieldLinkNest "ThreeHeirs$Finds" 36 "ThreeHeirs$County" "thingCount" "I" "ThreeHeirs" ∈ NW := nw 126 (by decide +kernel) (by decide +kernel)
theorem tk_127 : Cond.fieldLinkNest "ThreeHeirs$Reader" 100 "ThreeHeirs$County" "thingCount" "I" "ThreeHeirs" ∈ NW := nw 127 (by decide +kernel) (by decide +kernel)
theorem tk_128 : Cond.fieldLink "ThreeHeirs$County" 50 "ThreeHeirs$County" "landCount" "I" ∈ TW := tw 128 (by decide +kernel) (by decide +kernel)
theorem tk_129 : Cond.fieldLinkNest "ThreeHeirs" 120 "ThreeHeirs$County" "landCount" "I" "ThreeHeirs" ∈ NW := nw 129 (by decide +kernel) (by decide +kernel)
theorem tk_130 : Cond.fieldLink "ThreeHeirs$County" 53 "ThreeHeirs$County" "wantCount" "I" ∈ TW := tw 130 (by decide +kernel) (by decide +kernel)
theorem tk_131 : Cond.fieldLinkNest "ThreeHeirs" 123 "ThreeHeirs$County" "wantCount" "I" "ThreeHeirs" ∈ NW := nw 131 (by decide +kernel) (by decide +kernel)
theorem tk_132 : Cond.fieldLinkNest "ThreeHeirs$Estate" 93 "ThreeHeirs$County" "wantCount" "I" "ThreeHeirs" ∈ NW := nw 132 (by decide +kernel) (by decide +kernel)
theorem tk_133 : Cond.fieldLink "ThreeHeirs$County" 9 "ThreeHeirs$County" "seasons" "[I" ∈ TW := tw 133 (by decide +kernel) (by decide +kernel)
theorem tk_134 : Cond.fieldLink "ThreeHeirs$County" 15 "ThreeHeirs$County" "kinds" "[I" ∈ TW := tw 134 (by decide +kernel) (by decide +kernel)
theorem tk_135 : Cond.fieldLinkNest "ThreeHeirs$Estate" 80 "ThreeHeirs$County" "kinds" "[I" "ThreeHeirs" ∈ NW := nw 135 (by decide +kernel) (by decide +kernel)
theorem tk_136 : Cond.fieldLinkNest "ThreeHeirs" 175 "ThreeHeirs$County" "kinds" "[I" "ThreeHeirs" ∈ NW := nw 136 (by decide +kernel) (by decide +kernel)
theorem tk_137 : Cond.fieldLink "ThreeHeirs$County" 18 "ThreeHeirs$County" "firstValues" "[I" ∈ TW := tw 137 (by decide +kernel) (by decide +kernel)
theorem tk_138 : Cond.fieldLinkNest "ThreeHeirs$Estate" 42 "ThreeHeirs$County" "firstValues" "[I" "ThreeHeirs" ∈ NW := nw 138 (by decide +kernel) (by decide +kernel)
theorem tk_139 : Cond.fieldLink "ThreeHeirs$County" 21 "ThreeHeirs$County" "wantHeirs" "[I" ∈ TW := tw 139 (by decide +kernel) (by decide +kernel)
theorem tk_140 : Cond.fieldLinkNest "ThreeHeirs$Estate" 96 "ThreeHeirs$County" "wantHeirs" "[I" "ThreeHeirs" ∈ NW := nw 140 (by decide +kernel) (by decide +kernel)
theorem tk_141 : Cond.fieldLinkNest "ThreeHeirs" 181 "ThreeHeirs$County" "wantHeirs" "[I" "ThreeHeirs" ∈ NW := nw 141 (by decide +kernel) (by decide +kernel)
theorem tk_142 : Cond.fieldLink "ThreeHeirs$County" 24 "ThreeHeirs$County" "wantThings" "[I" ∈ TW := tw 142 (by decide +kernel) (by decide +kernel)
theorem tk_143 : Cond.fieldLinkNest "ThreeHeirs$Estate" 87 "ThreeHeirs$County" "wantThings" "[I" "ThreeHeirs" ∈ NW := nw 143 (by decide +kernel) (by decide +kernel)
theorem tk_144 : Cond.fieldLinkNest "ThreeHeirs" 184 "ThreeHeirs$County" "wantThings" "[I" "ThreeHeirs" ∈ NW := nw 144 (by decide +kernel) (by decide +kernel)
theorem tk_145 : Cond.fieldLink "ThreeHeirs$County" 27 "ThreeHeirs$County" "wantValues" "[I" ∈ TW := tw 145 (by decide +kernel) (by decide +kernel)
theorem tk_146 : Cond.fieldLinkNest "ThreeHeirs$Estate" 90 "ThreeHeirs$County" "wantValues" "[I" "ThreeHeirs" ∈ NW := nw 146 (by decide +kernel) (by decide +kernel)
theorem tk_147 : Cond.fieldLinkNest "ThreeHeirs" 187 "ThreeHeirs$County" "wantValues" "[I" "ThreeHeirs" ∈ NW := nw 147 (by decide +kernel) (by decide +kernel)
theorem tk_177 : Cond.fieldLink "ThreeHeirs$Reader" 18 "ThreeHeirs$Reader" "script" "LThreeHeirs$Script;" ∈ TW := tw 177 (by decide +kernel) (by decide +kernel)
theorem tk_178 : Cond.fieldLink "ThreeHeirs$Reader" 12 "ThreeHeirs$Reader" "draft" "LThreeHeirs$County;" ∈ TW := tw 178 (by decide +kernel) (by decide +kernel)
theorem tk_179 : Cond.fieldLink "ThreeHeirs$Reader" 22 "ThreeHeirs$Reader" "at" "I" ∈ TW := tw 179 (by decide +kernel) (by decide +kernel)
theorem tk_180 : Cond.fieldLink "ThreeHeirs$Reader" 26 "ThreeHeirs$Reader" "blame" "I" ∈ TW := tw 180 (by decide +kernel) (by decide +kernel)
theorem tk_181 : Cond.fieldLinkNest "ThreeHeirs" 96 "ThreeHeirs$Reader" "blame" "I" "ThreeHeirs" ∈ NW := nw 181 (by decide +kernel) (by decide +kernel)
theorem tk_182 : Cond.fieldLink "ThreeHeirs$Reader" 29 "ThreeHeirs$Reader" "place" "I" ∈ TW := tw 182 (by decide +kernel) (by decide +kernel)
theorem tk_183 : Cond.fieldLinkNest "ThreeHeirs" 93 "ThreeHeirs$Reader" "place" "I" "ThreeHeirs" ∈ NW := nw 183 (by decide +kernel) (by decide +kernel)
theorem tk_195 : Cond.classLink "ThreeHeirs" 25 "ThreeHeirs$Estate" ∈ TW := tw 195 (by decide +kernel) (by decide +kernel)
theorem tk_196 : Cond.instantiable "ThreeHeirs$Estate" 8 ∈ TW := tw 196 (by decide +kernel) (by decide +kernel)
theorem tk_197 : Cond.methodLinkNest "ThreeHeirs" 27 yX2_init "ThreeHeirs" ∈ NW := nw 197 (by decide +kernel) (by decide +kernel)
theorem tk_198 : Cond.instanceMethod yX2_init ∈ TW := tw 198 (by decide +kernel) (by decide +kernel)
theorem tk_199 : Cond.code yX2_init cX2_init 1 none ∈ TW := tw 199 (by decide +kernel) (by decide +kernel)
theorem tk_200 : Cond.methodLink "ThreeHeirs$Estate" 3 Lib.objectInit ∈ TW := tw 200 (by decide +kernel) (by decide +kernel)
theorem tk_201 : Cond.fieldLink "ThreeHeirs$Estate" 27 "ThreeHeirs$Estate" "hours" "I" ∈ TW := tw 201 (by decide +kernel) (by decide +kernel)
theorem tk_202 : Cond.fieldLinkNest "ThreeHeirs" 129 "ThreeHeirs$Estate" "hours" "I" "ThreeHeirs" ∈ NW := nw 202 (by decide +kernel) (by decide +kernel)
theorem tk_203 : Cond.fieldLink "ThreeHeirs$Estate" 31 "ThreeHeirs$Estate" "eclipseHours" "I" ∈ TW := tw 203 (by decide +kernel) (by decide +kernel)
theorem tk_204 : Cond.fieldLinkNest "ThreeHeirs" 132 "ThreeHeirs$Estate" "eclipseHours" "I" "ThreeHeirs" ∈ NW := nw 204 (by decide +kernel) (by decide +kernel)
theorem tk_205 : Cond.fieldLink "ThreeHeirs$Estate" 34 "ThreeHeirs$Estate" "logCount" "I" ∈ TW := tw 205 (by decide +kernel) (by decide +kernel)
theorem tk_206 : Cond.fieldLinkNest "ThreeHeirs" 150 "ThreeHeirs$Estate" "logCount" "I" "ThreeHeirs" ∈ NW := nw 206 (by decide +kernel) (by decide +kernel)
theorem tk_207 : Cond.fieldLink "ThreeHeirs$Estate" 9 "ThreeHeirs$Estate" "purses" "[I" ∈ TW := tw 207 (by decide +kernel) (by decide +kernel)
theorem tk_208 : Cond.fieldLinkNest "ThreeHeirs" 159 "ThreeHeirs$Estate" "purses" "[I" "ThreeHeirs" ∈ NW := nw 208 (by decide +kernel) (by decide +kernel)
theorem tk_209 : Cond.fieldLink "ThreeHeirs$Estate" 15 "ThreeHeirs$Estate" "angers" "[I" ∈ TW := tw 209 (by decide +kernel) (by decide +kernel)
theorem tk_210 : Cond.fieldLinkNest "ThreeHeirs" 162 "ThreeHeirs$Estate" "angers" "[I" "ThreeHeirs" ∈ NW := nw 210 (by decide +kernel) (by decide +kernel)
theorem tk_211 : Cond.fieldLink "ThreeHeirs$Estate" 18 "ThreeHeirs$Estate" "values" "[I" ∈ TW := tw 211 (by decide +kernel) (by decide +kernel)
theorem tk_212 : Cond.fieldLinkNest "ThreeHeirs$Finds" 29 "ThreeHeirs$Estate" "values" "[I" "ThreeHeirs" ∈ NW := nw 212 (by decide +kernel) (by decide +kernel)
theorem tk_213 : Cond.fieldLinkNest "ThreeHeirs$Book" 22 "ThreeHeirs$Estate" "values" "[I" "ThreeHeirs" ∈ NW := nw 213 (by decide +kernel) (by decide +kernel)
theorem tk_214 : Cond.fieldLinkNest "ThreeHeirs" 178 "ThreeHeirs$Estate" "values" "[I" "ThreeHeirs" ∈ NW := nw 214 (by decide +kernel) (by decide +kernel)
theorem tk_215 : Cond.fieldLink "ThreeHeirs$Estate" 21 "ThreeHeirs$Estate" "knownValues" "[I" ∈ TW := tw 215 (by decide +kernel) (by decide +kernel)
theorem tk_216 : Cond.fieldLinkNest "ThreeHeirs" 190 "ThreeHeirs$Estate" "knownValues" "[I" "ThreeHeirs" ∈ NW := nw 216 (by decide +kernel) (by decide +kernel)
theorem tk_217 : Cond.fieldLink "ThreeHeirs$Estate" 24 "ThreeHeirs$Estate" "log" "[I" ∈ TW := tw 217 (by decide +kernel) (by decide +kernel)
theorem tk_218 : Cond.fieldLinkNest "ThreeHeirs" 197 "ThreeHeirs$Estate" "log" "[I" "ThreeHeirs" ∈ NW := nw 218 (by decide +kernel) (by decide +kernel)
theorem tk_236 : Cond.classLink "ThreeHeirs" 32 "ThreeHeirs$Past" ∈ TW := tw 236 (by decide +kernel) (by decide +kernel)
theorem tk_237 : Cond.instantiable "ThreeHeirs$Past" 3 ∈ TW := tw 237 (by decide +kernel) (by decide +kernel)
theorem tk_238 : Cond.methodLink "ThreeHeirs" 34 yX4_init ∈ TW := tw 238 (by decide +kernel) (by decide +kernel)
theorem tk_239 : Cond.instanceMethod yX4_init ∈ TW := tw 239 (by decide +kernel) (by decide +kernel)
theorem tk_240 : Cond.code yX4_init cX4_init 2 none ∈ TW := tw 240 (by decide +kernel) (by decide +kernel)
theorem tk_241 : Cond.methodLink "ThreeHeirs$Past" 3 Lib.objectInit ∈ TW := tw 241 (by decide +kernel) (by decide +kernel)
theorem tk_242 : Cond.classLink "ThreeHeirs$Past" 9 "ThreeHeirs$Estate" ∈ TW := tw 242 (by decide +kernel) (by decide +kernel)
theorem tk_244 : Cond.methodLinkNest "ThreeHeirs$Past" 17 yX2_init "ThreeHeirs" ∈ NW := nw 244 (by decide +kernel) (by decide +kernel)
theorem tk_245 : Cond.fieldLink "ThreeHeirs$Past" 11 "ThreeHeirs$Past" "ahead" "[LThreeHeirs$Estate;" ∈ TW := tw 245 (by decide +kernel) (by decide +kernel)
theorem tk_246 : Cond.fieldLink "ThreeHeirs$Past" 18 "ThreeHeirs$Past" "first" "I" ∈ TW := tw 246 (by decide +kernel) (by decide +kernel)
theorem tk_247 : Cond.fieldLink "ThreeHeirs$Past" 22 "ThreeHeirs$Past" "count" "I" ∈ TW := tw 247 (by decide +kernel) (by decide +kernel)
theorem tk_248 : Cond.fieldLinkNest "ThreeHeirs" 153 "ThreeHeirs$Past" "count" "I" "ThreeHeirs" ∈ NW := nw 248 (by decide +kernel) (by decide +kernel)
theorem tk_256 : Cond.classLink "ThreeHeirs" 39 "ThreeHeirs$Finds" ∈ TW := tw 256 (by decide +kernel) (by decide +kernel)
theorem tk_257 : Cond.instantiable "ThreeHeirs$Finds" 5 ∈ TW := tw 257 (by decide +kernel) (by decide +kernel)
theorem tk_258 : Cond.methodLinkNest "ThreeHeirs" 41 yX3_init "ThreeHeirs" ∈ NW := nw 258 (by decide +kernel) (by decide +kernel)
theorem tk_259 : Cond.instanceMethod yX3_init ∈ TW := tw 259 (by decide +kernel) (by decide +kernel)
theorem tk_260 : Cond.code yX3_init cX3_init 1 none ∈ TW := tw 260 (by decide +kernel) (by decide +kernel)
theorem tk_261 : Cond.methodLink "ThreeHeirs$Finds" 3 Lib.objectInit ∈ TW := tw 261 (by decide +kernel) (by decide +kernel)
theorem tk_262 : Cond.fieldLink "ThreeHeirs$Finds" 9 "ThreeHeirs$Finds" "things" "[I" ∈ TW := tw 262 (by decide +kernel) (by decide +kernel)
theorem tk_263 : Cond.fieldLink "ThreeHeirs$Finds" 15 "ThreeHeirs$Finds" "values" "[I" ∈ TW := tw 263 (by decide +kernel) (by decide +kernel)
theorem tk_264 : Cond.fieldLink "ThreeHeirs$Finds" 18 "ThreeHeirs$Finds" "are" "[Z" ∈ TW := tw 264 (by decide +kernel) (by decide +kernel)
theorem tk_265 : Cond.fieldLink "ThreeHeirs$Finds" 22 "ThreeHeirs$Finds" "parts" "[I" ∈ TW := tw 265 (by decide +kernel) (by decide +kernel)
theorem tk_266 : Cond.fieldLink "ThreeHeirs$Finds" 25 "ThreeHeirs$Finds" "count" "I" ∈ TW := tw 266 (by decide +kernel) (by decide +kernel)
theorem tk_267 : Cond.fieldLinkNest "ThreeHeirs" 112 "ThreeHeirs$Finds" "count" "I" "ThreeHeirs" ∈ NW := nw 267 (by decide +kernel) (by decide +kernel)
theorem tk_280 : Cond.classLink "ThreeHeirs" 46 "ThreeHeirs$Book" ∈ TW := tw 280 (by decide +kernel) (by decide +kernel)
theorem tk_281 : Cond.instantiable "ThreeHeirs$Book" 3 ∈ TW := tw 281 (by decide +kernel) (by decide +kernel)
theorem tk_282 : Cond.methodLinkNest "ThreeHeirs" 48 yX0_init "ThreeHeirs" ∈ NW := nw 282 (by decide +kernel) (by decide +kernel)
theorem tk_283 : Cond.instanceMethod yX0_init ∈ TW := tw 283 (by decide +kernel) (by decide +kernel)
theorem tk_284 : Cond.code yX0_init cX0_init 1 none ∈ TW := tw 284 (by decide +kernel) (by decide +kernel)
theorem tk_285 : Cond.methodLink "ThreeHeirs$Book" 3 Lib.objectInit ∈ TW := tw 285 (by decide +kernel) (by decide +kernel)
theorem tk_286 : Cond.fieldLink "ThreeHeirs$Book" 9 "ThreeHeirs$Book" "things" "[I" ∈ TW := tw 286 (by decide +kernel) (by decide +kernel)
theorem tk_287 : Cond.fieldLink "ThreeHeirs$Book" 15 "ThreeHeirs$Book" "values" "[I" ∈ TW := tw 287 (by decide +kernel) (by decide +kernel)
theorem tk_288 : Cond.fieldLink "ThreeHeirs$Book" 18 "ThreeHeirs$Book" "count" "I" ∈ TW := tw 288 (by decide +kernel) (by decide +kernel)
theorem tk_289 : Cond.fieldLinkNest "ThreeHeirs" 115 "ThreeHeirs$Book" "count" "I" "ThreeHeirs" ∈ NW := nw 289 (by decide +kernel) (by decide +kernel)
theorem tk_297 : Cond.classLink "ThreeHeirs" 65 "ThreeHeirs$County" ∈ TW := tw 297 (by decide +kernel) (by decide +kernel)
theorem tk_298 : Cond.methodLinkNest "ThreeHeirs" 67 yX1_init "ThreeHeirs" ∈ NW := nw 298 (by decide +kernel) (by decide +kernel)
theorem tk_299 : Cond.methodLink "ThreeHeirs" 76 yX2_begin ∈ TW := tw 299 (by decide +kernel) (by decide +kernel)
theorem tk_300 : Cond.instanceMethod yX2_begin ∈ TW := tw 300 (by decide +kernel) (by decide +kernel)
theorem tk_301 : Cond.selects "ThreeHeirs$Estate" yX2_begin yX2_begin ∈ TW := tw 301 (by decide +kernel) (by decide +kernel)
theorem tk_302 : Cond.code yX2_begin cX2_begin 3 none ∈ TW := tw 302 (by decide +kernel) (by decide +kernel)
theorem tk_303 : Cond.fieldLink "ThreeHeirs" 10 "ThreeHeirs" "script" "LThreeHeirs$Script;" ∈ TW := tw 303 (by decide +kernel) (by decide +kernel)
theorem tk_304 : Cond.fieldLink "ThreeHeirs" 21 "ThreeHeirs" "reader" "LThreeHeirs$Reader;" ∈ TW := tw 304 (by decide +kernel) (by decide +kernel)
theorem tk_305 : Cond.fieldLink "ThreeHeirs" 28 "ThreeHeirs" "now" "LThreeHeirs$Estate;" ∈ TW := tw 305 (by decide +kernel) (by decide +kernel)
theorem tk_306 : Cond.fieldLink "ThreeHeirs" 35 "ThreeHeirs" "past" "LThreeHeirs$Past;" ∈ TW := tw 306 (by decide +kernel) (by decide +kernel)
theorem tk_307 : Cond.fieldLink "ThreeHeirs" 42 "ThreeHeirs" "finds" "LThreeHeirs$Finds;" ∈ TW := tw 307 (by decide +kernel) (by decide +kernel)
theorem tk_308 : Cond.fieldLink "ThreeHeirs" 49 "ThreeHeirs" "book" "LThreeHeirs$Book;" ∈ TW := tw 308 (by decide +kernel) (by decide +kernel)
theorem tk_309 : Cond.fieldLink "ThreeHeirs" 53 "ThreeHeirs" "images" "[LThreeHeirs$Estate;" ∈ TW := tw 309 (by decide +kernel) (by decide +kernel)
theorem tk_310 : Cond.fieldLink "ThreeHeirs" 57 "ThreeHeirs" "imageSeeds" "[I" ∈ TW := tw 310 (by decide +kernel) (by decide +kernel)
theorem tk_311 : Cond.fieldLink "ThreeHeirs" 61 "ThreeHeirs" "imageKept" "[Z" ∈ TW := tw 311 (by decide +kernel) (by decide +kernel)
theorem tk_312 : Cond.fieldLink "ThreeHeirs" 68 "ThreeHeirs" "land" "LThreeHeirs$County;" ∈ TW := tw 312 (by decide +kernel) (by decide +kernel)
theorem tk_313 : Cond.fieldLink "ThreeHeirs" 72 "ThreeHeirs" "faultAt" "I" ∈ TW := tw 313 (by decide +kernel) (by decide +kernel)
theorem tk_314 : Cond.fieldLink "ThreeHeirs" 229 "ThreeHeirs" "lot" "I" ∈ TW := tw 314 (by decide +kernel) (by decide +kernel)
theorem tk_340 : Cond.methodLink "ThreeHeirsLaw" 13 yX7_feed ∈ TW := tw 340 (by decide +kernel) (by decide +kernel)
theorem tk_341 : Cond.instanceMethod yX7_feed ∈ TW := tw 341 (by decide +kernel) (by decide +kernel)
theorem tk_342 : Cond.selects "ThreeHeirs" yX7_feed yX7_feed ∈ TW := tw 342 (by decide +kernel) (by decide +kernel)
theorem tk_343 : Cond.code yX7_feed cX7_feed 2 (some .int) ∈ TW := tw 343 (by decide +kernel) (by decide +kernel)
theorem tk_344 : Cond.constant "ThreeHeirs" 80 (-1000000002) ∈ TW := tw 344 (by decide +kernel) (by decide +kernel)
theorem tk_345 : Cond.constant "ThreeHeirs" 84 (-1000000004) ∈ TW := tw 345 (by decide +kernel) (by decide +kernel)
theorem tk_346 : Cond.methodLink "ThreeHeirs" 85 yX6_add ∈ TW := tw 346 (by decide +kernel) (by decide +kernel)
theorem tk_347 : Cond.instanceMethod yX6_add ∈ TW := tw 347 (by decide +kernel) (by decide +kernel)
theorem tk_348 : Cond.selects "ThreeHeirs$Script" yX6_add yX6_add ∈ TW := tw 348 (by decide +kernel) (by decide +kernel)
theorem tk_349 : Cond.code yX6_add cX6_add 2 none ∈ TW := tw 349 (by decide +kernel) (by decide +kernel)
theorem tk_350 : Cond.methodLink "ThreeHeirsLaw" 18 yX7_county ∈ TW := tw 350 (by decide +kernel) (by decide +kernel)
theorem tk_351 : Cond.instanceMethod yX7_county ∈ TW := tw 351 (by decide +kernel) (by decide +kernel)
theorem tk_352 : Cond.selects "ThreeHeirs" yX7_county yX7_county ∈ TW := tw 352 (by decide +kernel) (by decide +kernel)
theorem tk_353 : Cond.code yX7_county cX7_county 2 (some .int) ∈ TW := tw 353 (by decide +kernel) (by decide +kernel)
theorem tk_354 : Cond.methodLink "ThreeHeirs" 89 yX5_readAll ∈ TW := tw 354 (by decide +kernel) (by decide +kernel)
theorem tk_355 : Cond.instanceMethod yX5_readAll ∈ TW := tw 355 (by decide +kernel) (by decide +kernel)
theorem tk_356 : Cond.selects "ThreeHeirs$Reader" yX5_readAll yX5_readAll ∈ TW := tw 356 (by decide +kernel) (by decide +kernel)
theorem tk_357 : Cond.code yX5_readAll cX5_readAll 2 (some .boolean) ∈ TW := tw 357 (by decide +kernel) (by decide +kernel)
theorem tk_358 : Cond.methodLink "ThreeHeirs$Reader" 32 yX1_empty ∈ TW := tw 358 (by decide +kernel) (by decide +kernel)
theorem tk_359 : Cond.instanceMethod yX1_empty ∈ TW := tw 359 (by decide +kernel) (by decide +kernel)
theorem tk_360 : Cond.selects "ThreeHeirs$County" yX1_empty yX1_empty ∈ TW := tw 360 (by decide +kernel) (by decide +kernel)
theorem tk_361 : Cond.code yX1_empty cX1_empty 1 none ∈ TW := tw 361 (by decide +kernel) (by decide +kernel)
theorem tk_362 : Cond.methodLink "ThreeHeirs$Reader" 35 yX5_skipBlanks ∈ TW := tw 362 (by decide +kernel) (by decide +kernel)
theorem tk_364 : Cond.instanceMethod yX5_skipBlanks ∈ TW := tw 364 (by decide +kernel) (by decide +kernel)
theorem tk_365 : Cond.code yX5_skipBlanks cX5_skipBlanks 1 none ∈ TW := tw 365 (by decide +kernel) (by decide +kernel)
theorem tk_366 : Cond.methodLink "ThreeHeirs$Reader" 46 yX6_letterAt ∈ TW := tw 366 (by decide +kernel) (by decide +kernel)
theorem tk_367 : Cond.instanceMethod yX6_letterAt ∈ TW := tw 367 (by decide +kernel) (by decide +kernel)
theorem tk_368 : Cond.selects "ThreeHeirs$Script" yX6_letterAt yX6_letterAt ∈ TW := tw 368 (by decide +kernel) (by decide +kernel)
theorem tk_369 : Cond.code yX6_letterAt cX6_letterAt 2 (some .int) ∈ TW := tw 369 (by decide +kernel) (by decide +kernel)
theorem tk_370 : Cond.methodLink "ThreeHeirs$Reader" 43 yX5_readClause ∈ TW := tw 370 (by decide +kernel) (by decide +kernel)
theorem tk_372 : Cond.instanceMethod yX5_readClause ∈ TW := tw 372 (by decide +kernel) (by decide +kernel)
theorem tk_373 : Cond.code yX5_readClause cX5_readClause 2 none ∈ TW := tw 373 (by decide +kernel) (by decide +kernel)
theorem tk_374 : Cond.methodLink "ThreeHeirs$Reader" 50 yX5_isWord ∈ TW := tw 374 (by decide +kernel) (by decide +kernel)
theorem tk_375 : Cond.static yX5_isWord ∈ TW := tw 375 (by decide +kernel) (by decide +kernel)
theorem tk_376 : Cond.code yX5_isWord cX5_isWord 1 (some .boolean) ∈ TW := tw 376 (by decide +kernel) (by decide +kernel)
theorem tk_377 : Cond.methodLink "ThreeHeirs$Reader" 58 yX5_accuse ∈ TW := tw 377 (by decide +kernel) (by decide +kernel)
theorem tk_379 : Cond.instanceMethod yX5_accuse ∈ TW := tw 379 (by decide +kernel) (by decide +kernel)
theorem tk_380 : Cond.code yX5_accuse cX5_accuse 3 none ∈ TW := tw 380 (by decide +kernel) (by decide +kernel)
theorem tk_381 : Cond.methodLink "ThreeHeirs$Reader" 62 yX1_hasRoomFor ∈ TW := tw 381 (by decide +kernel) (by decide +kernel)
theorem tk_382 : Cond.instanceMethod yX1_hasRoomFor ∈ TW := tw 382 (by decide +kernel) (by decide +kernel)
theorem tk_383 : Cond.selects "ThreeHeirs$County" yX1_hasRoomFor yX1_hasRoomFor ∈ TW := tw 383 (by decide +kernel) (by decide +kernel)
theorem tk_384 : Cond.code yX1_hasRoomFor cX1_hasRoomFor 2 (some .boolean) ∈ TW := tw 384 (by decide +kernel) (by decide +kernel)
theorem tk_385 : Cond.methodLink "ThreeHeirs$Reader" 65 yX5_readDay ∈ TW := tw 385 (by decide +kernel) (by decide +kernel)
theorem tk_387 : Cond.instanceMethod yX5_readDay ∈ TW := tw 387 (by decide +kernel) (by decide +kernel)
theorem tk_388 : Cond.code yX5_readDay cX5_readDay 3 none ∈ TW := tw 388 (by decide +kernel) (by decide +kernel)
theorem tk_389 : Cond.methodLink "ThreeHeirs$Reader" 83 yX5_readNumber ∈ TW := tw 389 (by decide +kernel) (by decide +kernel)
theorem tk_391 : Cond.instanceMethod yX5_readNumber ∈ TW := tw 391 (by decide +kernel) (by decide +kernel)
theorem tk_392 : Cond.code yX5_readNumber cX5_readNumber 5 (some .int) ∈ TW := tw 392 (by decide +kernel) (by decide +kernel)
theorem tk_393 : Cond.methodLink "ThreeHeirs$Reader" 107 yX5_isFigure ∈ TW := tw 393 (by decide +kernel) (by decide +kernel)
theorem tk_394 : Cond.static yX5_isFigure ∈ TW := tw 394 (by decide +kernel) (by decide +kernel)
theorem tk_395 : Cond.code yX5_isFigure cX5_isFigure 1 (some .boolean) ∈ TW := tw 395 (by decide +kernel) (by decide +kernel)
theorem tk_396 : Cond.methodLinkNest "ThreeHeirs$Reader" 110 yX7_isWithin "ThreeHeirs" ∈ NW := nw 396 (by decide +kernel) (by decide +kernel)
theorem tk_397 : Cond.static yX7_isWithin ∈ TW := tw 397 (by decide +kernel) (by decide +kernel)
theorem tk_398 : Cond.code yX7_isWithin cX7_isWithin 3 (some .boolean) ∈ TW := tw 398 (by decide +kernel) (by decide +kernel)
theorem tk_399 : Cond.methodLink "ThreeHeirs$Reader" 87 yX1_addDay ∈ TW := tw 399 (by decide +kernel) (by decide +kernel)
theorem tk_400 : Cond.instanceMethod yX1_addDay ∈ TW := tw 400 (by decide +kernel) (by decide +kernel)
theorem tk_401 : Cond.selects "ThreeHeirs$County" yX1_addDay yX1_addDay ∈ TW := tw 401 (by decide +kernel) (by decide +kernel)
theorem tk_402 : Cond.code yX1_addDay cX1_addDay 3 none ∈ TW := tw 402 (by decide +kernel) (by decide +kernel)
theorem tk_403 : Cond.methodLink "ThreeHeirs$Reader" 68 yX5_readSeasons ∈ TW := tw 403 (by decide +kernel) (by decide +kernel)
theorem tk_405 : Cond.instanceMethod yX5_readSeasons ∈ TW := tw 405 (by decide +kernel) (by decide +kernel)
theorem tk_406 : Cond.code yX5_readSeasons cX5_readSeasons 2 none ∈ TW := tw 406 (by decide +kernel) (by decide +kernel)
theorem tk_407 : Cond.methodLink "ThreeHeirs$Reader" 90 yX1_addSeason ∈ TW := tw 407 (by decide +kernel) (by decide +kernel)
theorem tk_408 : Cond.instanceMethod yX1_addSeason ∈ TW := tw 408 (by decide +kernel) (by decide +kernel)
theorem tk_409 : Cond.selects "ThreeHeirs$County" yX1_addSeason yX1_addSeason ∈ TW := tw 409 (by decide +kernel) (by decide +kernel)
theorem tk_410 : Cond.code yX1_addSeason cX1_addSeason 2 none ∈ TW := tw 410 (by decide +kernel) (by decide +kernel)
theorem tk_411 : Cond.methodLink "ThreeHeirs$Reader" 71 yX5_readThing ∈ TW := tw 411 (by decide +kernel) (by decide +kernel)
theorem tk_413 : Cond.instanceMethod yX5_readThing ∈ TW := tw 413 (by decide +kernel) (by decide +kernel)
theorem tk_414 : Cond.code yX5_readThing cX5_readThing 3 none ∈ TW := tw 414 (by decide +kernel) (by decide +kernel)
theorem tk_415 : Cond.methodLink "ThreeHeirs$Reader" 94 yX1_addThing ∈ TW := tw 415 (by decide +kernel) (by decide +kernel)
theorem tk_416 : Cond.instanceMethod yX1_addThing ∈ TW := tw 416 (by decide +kernel) (by decide +kernel)
theorem tk_417 : Cond.selects "ThreeHeirs$County" yX1_addThing yX1_addThing ∈ TW := tw 417 (by decide +kernel) (by decide +kernel)
theorem tk_418 : Cond.code yX1_addThing cX1_addThing 3 none ∈ TW := tw 418 (by decide +kernel) (by decide +kernel)
theorem tk_419 : Cond.methodLink "ThreeHeirs$Reader" 74 yX5_readLand ∈ TW := tw 419 (by decide +kernel) (by decide +kernel)
theorem tk_421 : Cond.instanceMethod yX5_readLand ∈ TW := tw 421 (by decide +kernel) (by decide +kernel)
theorem tk_422 : Cond.code yX5_readLand cX5_readLand 1 none ∈ TW := tw 422 (by decide +kernel) (by decide +kernel)
theorem tk_423 : Cond.methodLink "ThreeHeirs$Reader" 97 yX1_addLand ∈ TW := tw 423 (by decide +kernel) (by decide +kernel)
theorem tk_424 : Cond.instanceMethod yX1_addLand ∈ TW := tw 424 (by decide +kernel) (by decide +kernel)
theorem tk_425 : Cond.selects "ThreeHeirs$County" yX1_addLand yX1_addLand ∈ TW := tw 425 (by decide +kernel) (by decide +kernel)
theorem tk_426 : Cond.code yX1_addLand cX1_addLand 2 none ∈ TW := tw 426 (by decide +kernel) (by decide +kernel)
theorem tk_427 : Cond.methodLink "ThreeHeirs$Reader" 77 yX5_readWant ∈ TW := tw 427 (by decide +kernel) (by decide +kernel)
theorem tk_429 : Cond.instanceMethod yX5_readWant ∈ TW := tw 429 (by decide +kernel) (by decide +kernel)
theorem tk_430 : Cond.code yX5_readWant cX5_readWant 4 none ∈ TW := tw 430 (by decide +kernel) (by decide +kernel)
theorem tk_431 : Cond.methodLink "ThreeHeirs$Reader" 103 yX1_addWant ∈ TW := tw 431 (by decide +kernel) (by decide +kernel)
theorem tk_432 : Cond.instanceMethod yX1_addWant ∈ TW := tw 432 (by decide +kernel) (by decide +kernel)
theorem tk_433 : Cond.selects "ThreeHeirs$County" yX1_addWant yX1_addWant ∈ TW := tw 433 (by decide +kernel) (by decide +kernel)
theorem tk_434 : Cond.code yX1_addWant cX1_addWant 4 none ∈ TW := tw 434 (by decide +kernel) (by decide +kernel)
theorem tk_435 : Cond.methodLink "ThreeHeirs$Reader" 80 yX5_readEnd ∈ TW := tw 435 (by decide +kernel) (by decide +kernel)
theorem tk_437 : Cond.instanceMethod yX5_readEnd ∈ TW := tw 437 (by decide +kernel) (by decide +kernel)
theorem tk_438 : Cond.code yX5_readEnd cX5_readEnd 1 none ∈ TW := tw 438 (by decide +kernel) (by decide +kernel)
theorem tk_439 : Cond.methodLink "ThreeHeirs" 99 yX5_exchange ∈ TW := tw 439 (by decide +kernel) (by decide +kernel)
theorem tk_440 : Cond.instanceMethod yX5_exchange ∈ TW := tw 440 (by decide +kernel) (by decide +kernel)
theorem tk_441 : Cond.selects "ThreeHeirs$Reader" yX5_exchange yX5_exchange ∈ TW := tw 441 (by decide +kernel) (by decide +kernel)
theorem tk_442 : Cond.code yX5_exchange cX5_exchange 3 (some (.object "ThreeHeirs$County")) ∈ TW := tw 442 (by decide +kernel) (by decide +kernel)
theorem tk_443 : Cond.methodLink "ThreeHeirs" 103 yX7_startAnew ∈ TW := tw 443 (by decide +kernel) (by decide +kernel)
theorem tk_445 : Cond.instanceMethod yX7_startAnew ∈ TW := tw 445 (by decide +kernel) (by decide +kernel)
theorem tk_446 : Cond.code yX7_startAnew cX7_startAnew 2 none ∈ TW := tw 446 (by decide +kernel) (by decide +kernel)
theorem tk_447 : Cond.methodLink "ThreeHeirs" 109 yX4_forget ∈ TW := tw 447 (by decide +kernel) (by decide +kernel)
theorem tk_448 : Cond.instanceMethod yX4_forget ∈ TW := tw 448 (by decide +kernel) (by decide +kernel)
theorem tk_449 : Cond.selects "ThreeHeirs$Past" yX4_forget yX4_forget ∈ TW := tw 449 (by decide +kernel) (by decide +kernel)
theorem tk_450 : Cond.code yX4_forget cX4_forget 1 none ∈ TW := tw 450 (by decide +kernel) (by decide +kernel)
theorem tk_451 : Cond.methodLink "ThreeHeirsLaw" 23 yX7_fault ∈ TW := tw 451 (by decide +kernel) (by decide +kernel)
theorem tk_452 : Cond.instanceMethod yX7_fault ∈ TW := tw 452 (by decide +kernel) (by decide +kernel)
theorem tk_453 : Cond.selects "ThreeHeirs" yX7_fault yX7_fault ∈ TW := tw 453 (by decide +kernel) (by decide +kernel)
theorem tk_454 : Cond.code yX7_fault cX7_fault 1 (some .int) ∈ TW := tw 454 (by decide +kernel) (by decide +kernel)
theorem tk_455 : Cond.methodLink "ThreeHeirsLaw" 27 yX7_told ∈ TW := tw 455 (by decide +kernel) (by decide +kernel)
theorem tk_456 : Cond.instanceMethod yX7_told ∈ TW := tw 456 (by decide +kernel) (by decide +kernel)
theorem tk_457 : Cond.selects "ThreeHeirs" yX7_told yX7_told ∈ TW := tw 457 (by decide +kernel) (by decide +kernel)
theorem tk_458 : Cond.code yX7_told cX7_told 2 (some .int) ∈ TW := tw 458 (by decide +kernel) (by decide +kernel)
theorem tk_459 : Cond.methodLink "ThreeHeirs" 135 yX2_holderIn ∈ TW := tw 459 (by decide +kernel) (by decide +kernel)
theorem tk_460 : Cond.instanceMethod yX2_holderIn ∈ TW := tw 460 (by decide +kernel) (by decide +kernel)
theorem tk_461 : Cond.selects "ThreeHeirs$Estate" yX2_holderIn yX2_holderIn ∈ TW := tw 461 (by decide +kernel) (by decide +kernel)
theorem tk_462 : Cond.code yX2_holderIn cX2_holderIn 3 (some .int) ∈ TW := tw 462 (by decide +kernel) (by decide +kernel)
theorem tk_463 : Cond.methodLink "ThreeHeirs$Estate" 55 yX1_holderByLight ∈ TW := tw 463 (by decide +kernel) (by decide +kernel)
theorem tk_464 : Cond.instanceMethod yX1_holderByLight ∈ TW := tw 464 (by decide +kernel) (by decide +kernel)
theorem tk_465 : Cond.selects "ThreeHeirs$County" yX1_holderByLight yX1_holderByLight ∈ TW := tw 465 (by decide +kernel) (by decide +kernel)
theorem tk_466 : Cond.code yX1_holderByLight cX1_holderByLight 4 (some .int) ∈ TW := tw 466 (by decide +kernel) (by decide +kernel)
theorem tk_467 : Cond.methodLink "ThreeHeirs$County" 72 yX1_lightFrom ∈ TW := tw 467 (by decide +kernel) (by decide +kernel)
theorem tk_468 : Cond.instanceMethod yX1_lightFrom ∈ TW := tw 468 (by decide +kernel) (by decide +kernel)
theorem tk_469 : Cond.selects "ThreeHeirs$County" yX1_lightFrom yX1_lightFrom ∈ TW := tw 469 (by decide +kernel) (by decide +kernel)
theorem tk_470 : Cond.code yX1_lightFrom cX1_lightFrom 3 (some .int) ∈ TW := tw 470 (by decide +kernel) (by decide +kernel)
theorem tk_471 : Cond.methodLink "ThreeHeirs$County" 56 yX1_seasonOf ∈ TW := tw 471 (by decide +kernel) (by decide +kernel)
theorem tk_473 : Cond.instanceMethod yX1_seasonOf ∈ TW := tw 473 (by decide +kernel) (by decide +kernel)
theorem tk_474 : Cond.code yX1_seasonOf cX1_seasonOf 2 (some .int) ∈ TW := tw 474 (by decide +kernel) (by decide +kernel)
theorem tk_475 : Cond.methodLink "ThreeHeirs$County" 60 Lib.Math.min.name ∈ TW := tw 475 (by decide +kernel) (by decide +kernel)
theorem tk_478 : Cond.methodLink "ThreeHeirs$County" 66 Lib.Math.max.name ∈ TW := tw 478 (by decide +kernel) (by decide +kernel)
theorem tk_481 : Cond.methodLink "ThreeHeirs$County" 69 yX1_lightTo ∈ TW := tw 481 (by decide +kernel) (by decide +kernel)
theorem tk_482 : Cond.instanceMethod yX1_lightTo ∈ TW := tw 482 (by decide +kernel) (by decide +kernel)
theorem tk_483 : Cond.selects "ThreeHeirs$County" yX1_lightTo yX1_lightTo ∈ TW := tw 483 (by decide +kernel) (by decide +kernel)
theorem tk_484 : Cond.code yX1_lightTo cX1_lightTo 3 (some .int) ∈ TW := tw 484 (by decide +kernel) (by decide +kernel)
theorem tk_485 : Cond.methodLink "ThreeHeirs" 139 yX2_metWants ∈ TW := tw 485 (by decide +kernel) (by decide +kernel)
theorem tk_486 : Cond.instanceMethod yX2_metWants ∈ TW := tw 486 (by decide +kernel) (by decide +kernel)
theorem tk_487 : Cond.selects "ThreeHeirs$Estate" yX2_metWants yX2_metWants ∈ TW := tw 487 (by decide +kernel) (by decide +kernel)
theorem tk_488 : Cond.code yX2_metWants cX2_metWants 4 (some .int) ∈ TW := tw 488 (by decide +kernel) (by decide +kernel)
theorem tk_489 : Cond.methodLink "ThreeHeirs$Estate" 99 yX2_isMet ∈ TW := tw 489 (by decide +kernel) (by decide +kernel)
theorem tk_491 : Cond.instanceMethod yX2_isMet ∈ TW := tw 491 (by decide +kernel) (by decide +kernel)
theorem tk_492 : Cond.code yX2_isMet cX2_isMet 3 (some .boolean) ∈ TW := tw 492 (by decide +kernel) (by decide +kernel)
theorem tk_493 : Cond.methodLink "ThreeHeirs" 143 yX2_notesNeeded ∈ TW := tw 493 (by decide +kernel) (by decide +kernel)
theorem tk_494 : Cond.instanceMethod yX2_notesNeeded ∈ TW := tw 494 (by decide +kernel) (by decide +kernel)
theorem tk_495 : Cond.selects "ThreeHeirs$Estate" yX2_notesNeeded yX2_notesNeeded ∈ TW := tw 495 (by decide +kernel) (by decide +kernel)
theorem tk_496 : Cond.code yX2_notesNeeded cX2_notesNeeded 5 (some .int) ∈ TW := tw 496 (by decide +kernel) (by decide +kernel)
theorem tk_497 : Cond.methodLink "ThreeHeirs$Estate" 59 yX2_holderIn ∈ TW := tw 497 (by decide +kernel) (by decide +kernel)
theorem tk_498 : Cond.methodLink "ThreeHeirs$Estate" 103 yX2_wrongAbout ∈ TW := tw 498 (by decide +kernel) (by decide +kernel)
theorem tk_499 : Cond.instanceMethod yX2_wrongAbout ∈ TW := tw 499 (by decide +kernel) (by decide +kernel)
theorem tk_500 : Cond.selects "ThreeHeirs$Estate" yX2_wrongAbout yX2_wrongAbout ∈ TW := tw 500 (by decide +kernel) (by decide +kernel)
theorem tk_501 : Cond.code yX2_wrongAbout cX2_wrongAbout 5 (some .int) ∈ TW := tw 501 (by decide +kernel) (by decide +kernel)
theorem tk_502 : Cond.methodLink "ThreeHeirs$Estate" 106 yJ6_bitCount_0f7a4 ∈ TW := tw 502 (by decide +kernel) (by decide +kernel)
theorem tk_503 : Cond.static yJ6_bitCount_0f7a4 ∈ TW := tw 503 (by decide +kernel) (by decide +kernel)
theorem tk_504 : Cond.code yJ6_bitCount_0f7a4 cJ6_bitCount_0f7a4 1 (some .int) ∈ TW := tw 504 (by decide +kernel) (by decide +kernel)
theorem tk_505 : Cond.constant "java/lang/Integer" 265 (1431655765) ∈ TW := tw 505 (by decide +kernel) (by decide +kernel)
theorem tk_506 : Cond.constant "java/lang/Integer" 266 (858993459) ∈ TW := tw 506 (by decide +kernel) (by decide +kernel)
theorem tk_507 : Cond.constant "java/lang/Integer" 267 (252645135) ∈ TW := tw 507 (by decide +kernel) (by decide +kernel)
theorem tk_508 : Cond.methodLink "ThreeHeirs" 146 yX2_envy ∈ TW := tw 508 (by decide +kernel) (by decide +kernel)
theorem tk_509 : Cond.instanceMethod yX2_envy ∈ TW := tw 509 (by decide +kernel) (by decide +kernel)
theorem tk_510 : Cond.selects "ThreeHeirs$Estate" yX2_envy yX2_envy ∈ TW := tw 510 (by decide +kernel) (by decide +kernel)
theorem tk_511 : Cond.code yX2_envy cX2_envy 3 (some .int) ∈ TW := tw 511 (by decide +kernel) (by decide +kernel)
theorem tk_512 : Cond.methodLink "ThreeHeirs$Estate" 111 Lib.Math.max.name ∈ TW := tw 512 (by decide +kernel) (by decide +kernel)
theorem tk_513 : Cond.methodLink "ThreeHeirs$Estate" 71 Lib.Math.min.name ∈ TW := tw 513 (by decide +kernel) (by decide +kernel)
theorem tk_514 : Cond.methodLink "ThreeHeirsLaw" 31 yX7_heir ∈ TW := tw 514 (by decide +kernel) (by decide +kernel)
theorem tk_515 : Cond.instanceMethod yX7_heir ∈ TW := tw 515 (by decide +kernel) (by decide +kernel)
theorem tk_516 : Cond.selects "ThreeHeirs" yX7_heir yX7_heir ∈ TW := tw 516 (by decide +kernel) (by decide +kernel)
theorem tk_517 : Cond.code yX7_heir cX7_heir 3 (some .int) ∈ TW := tw 517 (by decide +kernel) (by decide +kernel)
theorem tk_518 : Cond.methodLink "ThreeHeirs" 154 yX7_isHeir ∈ TW := tw 518 (by decide +kernel) (by decide +kernel)
theorem tk_519 : Cond.static yX7_isHeir ∈ TW := tw 519 (by decide +kernel) (by decide +kernel)
theorem tk_520 : Cond.code yX7_isHeir cX7_isHeir 1 (some .boolean) ∈ TW := tw 520 (by decide +kernel) (by decide +kernel)
theorem tk_521 : Cond.constant "ThreeHeirs" 158 (-1000000001) ∈ TW := tw 521 (by decide +kernel) (by decide +kernel)
theorem tk_522 : Cond.methodLink "ThreeHeirs" 165 yX1_wantsOf ∈ TW := tw 522 (by decide +kernel) (by decide +kernel)
theorem tk_523 : Cond.instanceMethod yX1_wantsOf ∈ TW := tw 523 (by decide +kernel) (by decide +kernel)
theorem tk_524 : Cond.selects "ThreeHeirs$County" yX1_wantsOf yX1_wantsOf ∈ TW := tw 524 (by decide +kernel) (by decide +kernel)
theorem tk_525 : Cond.code yX1_wantsOf cX1_wantsOf 4 (some .int) ∈ TW := tw 525 (by decide +kernel) (by decide +kernel)
theorem tk_526 : Cond.methodLink "ThreeHeirs" 169 yX2_wrongAbout ∈ TW := tw 526 (by decide +kernel) (by decide +kernel)
theorem tk_527 : Cond.methodLink "ThreeHeirsLaw" 36 yX7_thing ∈ TW := tw 527 (by decide +kernel) (by decide +kernel)
theorem tk_528 : Cond.instanceMethod yX7_thing ∈ TW := tw 528 (by decide +kernel) (by decide +kernel)
theorem tk_529 : Cond.selects "ThreeHeirs" yX7_thing yX7_thing ∈ TW := tw 529 (by decide +kernel) (by decide +kernel)
theorem tk_530 : Cond.code yX7_thing cX7_thing 3 (some .int) ∈ TW := tw 530 (by decide +kernel) (by decide +kernel)
theorem tk_531 : Cond.methodLink "ThreeHeirs" 172 yX7_isThing ∈ TW := tw 531 (by decide +kernel) (by decide +kernel)
theorem tk_533 : Cond.instanceMethod yX7_isThing ∈ TW := tw 533 (by decide +kernel) (by decide +kernel)
theorem tk_534 : Cond.code yX7_isThing cX7_isThing 2 (some .boolean) ∈ TW := tw 534 (by decide +kernel) (by decide +kernel)
theorem tk_535 : Cond.methodLink "ThreeHeirsLaw" 40 yX7_want ∈ TW := tw 535 (by decide +kernel) (by decide +kernel)
theorem tk_536 : Cond.instanceMethod yX7_want ∈ TW := tw 536 (by decide +kernel) (by decide +kernel)
theorem tk_537 : Cond.selects "ThreeHeirs" yX7_want yX7_want ∈ TW := tw 537 (by decide +kernel) (by decide +kernel)
theorem tk_538 : Cond.code yX7_want cX7_want 3 (some .int) ∈ TW := tw 538 (by decide +kernel) (by decide +kernel)
theorem tk_539 : Cond.methodLink "ThreeHeirsLaw" 44 yX7_known ∈ TW := tw 539 (by decide +kernel) (by decide +kernel)
theorem tk_540 : Cond.instanceMethod yX7_known ∈ TW := tw 540 (by decide +kernel) (by decide +kernel)
theorem tk_541 : Cond.selects "ThreeHeirs" yX7_known yX7_known ∈ TW := tw 541 (by decide +kernel) (by decide +kernel)
theorem tk_542 : Cond.code yX7_known cX7_known 3 (some .int) ∈ TW := tw 542 (by decide +kernel) (by decide +kernel)
theorem tk_543 : Cond.methodLink "ThreeHeirsLaw" 48 yX7_logged ∈ TW := tw 543 (by decide +kernel) (by decide +kernel)
theorem tk_544 : Cond.instanceMethod yX7_logged ∈ TW := tw 544 (by decide +kernel) (by decide +kernel)
theorem tk_545 : Cond.selects "ThreeHeirs" yX7_logged yX7_logged ∈ TW := tw 545 (by decide +kernel) (by decide +kernel)
theorem tk_546 : Cond.code yX7_logged cX7_logged 3 (some .int) ∈ TW := tw 546 (by decide +kernel) (by decide +kernel)
theorem tk_547 : Cond.methodLink "ThreeHeirs" 193 yX7_isWithin ∈ TW := tw 547 (by decide +kernel) (by decide +kernel)
theorem tk_548 : Cond.methodLink "ThreeHeirsLaw" 52 yX7_hour ∈ TW := tw 548 (by decide +kernel) (by decide +kernel)
theorem tk_549 : Cond.instanceMethod yX7_hour ∈ TW := tw 549 (by decide +kernel) (by decide +kernel)
theorem tk_550 : Cond.selects "ThreeHeirs" yX7_hour yX7_hour ∈ TW := tw 550 (by decide +kernel) (by decide +kernel)
theorem tk_551 : Cond.code yX7_hour cX7_hour 4 (some .int) ∈ TW := tw 551 (by decide +kernel) (by decide +kernel)
theorem tk_552 : Cond.methodLink "ThreeHeirs" 200 yX7_refusalOfHours ∈ TW := tw 552 (by decide +kernel) (by decide +kernel)
theorem tk_554 : Cond.instanceMethod yX7_refusalOfHours ∈ TW := tw 554 (by decide +kernel) (by decide +kernel)
theorem tk_555 : Cond.code yX7_refusalOfHours cX7_refusalOfHours 2 (some .int) ∈ TW := tw 555 (by decide +kernel) (by decide +kernel)
theorem tk_556 : Cond.constant "ThreeHeirs" 217 (-1000000003) ∈ TW := tw 556 (by decide +kernel) (by decide +kernel)
theorem tk_557 : Cond.constant "ThreeHeirs" 225 (90000) ∈ TW := tw 557 (by decide +kernel) (by decide +kernel)
theorem tk_558 : Cond.methodLink "ThreeHeirs" 203 yX4_remember ∈ TW := tw 558 (by decide +kernel) (by decide +kernel)
theorem tk_559 : Cond.instanceMethod yX4_remember ∈ TW := tw 559 (by decide +kernel) (by decide +kernel)
theorem tk_560 : Cond.selects "ThreeHeirs$Past" yX4_remember yX4_remember ∈ TW := tw 560 (by decide +kernel) (by decide +kernel)
theorem tk_561 : Cond.code yX4_remember cX4_remember 2 none ∈ TW := tw 561 (by decide +kernel) (by decide +kernel)
theorem tk_562 : Cond.methodLink "ThreeHeirs$Past" 25 yX2_copyOf ∈ TW := tw 562 (by decide +kernel) (by decide +kernel)
theorem tk_563 : Cond.instanceMethod yX2_copyOf ∈ TW := tw 563 (by decide +kernel) (by decide +kernel)
theorem tk_564 : Cond.selects "ThreeHeirs$Estate" yX2_copyOf yX2_copyOf ∈ TW := tw 564 (by decide +kernel) (by decide +kernel)
theorem tk_565 : Cond.code yX2_copyOf cX2_copyOf 2 none ∈ TW := tw 565 (by decide +kernel) (by decide +kernel)
theorem tk_566 : Cond.methodLink "ThreeHeirs$Estate" 45 arraycopyName ∈ TW := tw 566 (by decide +kernel) (by decide +kernel)
theorem tk_569 : Cond.methodLink "ThreeHeirs" 207 yX2_passHour ∈ TW := tw 569 (by decide +kernel) (by decide +kernel)
theorem tk_570 : Cond.instanceMethod yX2_passHour ∈ TW := tw 570 (by decide +kernel) (by decide +kernel)
theorem tk_571 : Cond.selects "ThreeHeirs$Estate" yX2_passHour yX2_passHour ∈ TW := tw 571 (by decide +kernel) (by decide +kernel)
theorem tk_572 : Cond.code yX2_passHour cX2_passHour 4 none ∈ TW := tw 572 (by decide +kernel) (by decide +kernel)
theorem tk_573 : Cond.methodLinkNest "ThreeHeirs$Estate" 63 yX7_isHeir "ThreeHeirs" ∈ NW := nw 573 (by decide +kernel) (by decide +kernel)
theorem tk_574 : Cond.constant "ThreeHeirs$Estate" 67 (9999999) ∈ TW := tw 574 (by decide +kernel) (by decide +kernel)
theorem tk_575 : Cond.methodLink "ThreeHeirs$Estate" 77 yX2_unmetWants ∈ TW := tw 575 (by decide +kernel) (by decide +kernel)
theorem tk_577 : Cond.instanceMethod yX2_unmetWants ∈ TW := tw 577 (by decide +kernel) (by decide +kernel)
theorem tk_578 : Cond.code yX2_unmetWants cX2_unmetWants 5 (some .int) ∈ TW := tw 578 (by decide +kernel) (by decide +kernel)
theorem tk_579 : Cond.methodLink "ThreeHeirs$Estate" 83 yX1_behindHour ∈ TW := tw 579 (by decide +kernel) (by decide +kernel)
theorem tk_580 : Cond.static yX1_behindHour ∈ TW := tw 580 (by decide +kernel) (by decide +kernel)
theorem tk_581 : Cond.code yX1_behindHour cX1_behindHour 4 (some .int) ∈ TW := tw 581 (by decide +kernel) (by decide +kernel)
theorem tk_582 : Cond.methodLink "ThreeHeirsLaw" 56 yX7_put ∈ TW := tw 582 (by decide +kernel) (by decide +kernel)
theorem tk_583 : Cond.instanceMethod yX7_put ∈ TW := tw 583 (by decide +kernel) (by decide +kernel)
theorem tk_584 : Cond.selects "ThreeHeirs" yX7_put yX7_put ∈ TW := tw 584 (by decide +kernel) (by decide +kernel)
theorem tk_585 : Cond.code yX7_put cX7_put 3 (some .int) ∈ TW := tw 585 (by decide +kernel) (by decide +kernel)
theorem tk_586 : Cond.methodLink "ThreeHeirs" 210 yX7_isValue ∈ TW := tw 586 (by decide +kernel) (by decide +kernel)
theorem tk_587 : Cond.static yX7_isValue ∈ TW := tw 587 (by decide +kernel) (by decide +kernel)
theorem tk_588 : Cond.code yX7_isValue cX7_isValue 1 (some .boolean) ∈ TW := tw 588 (by decide +kernel) (by decide +kernel)
theorem tk_589 : Cond.methodLink "ThreeHeirs" 213 yX2_setThing ∈ TW := tw 589 (by decide +kernel) (by decide +kernel)
theorem tk_590 : Cond.instanceMethod yX2_setThing ∈ TW := tw 590 (by decide +kernel) (by decide +kernel)
theorem tk_591 : Cond.selects "ThreeHeirs$Estate" yX2_setThing yX2_setThing ∈ TW := tw 591 (by decide +kernel) (by decide +kernel)
theorem tk_592 : Cond.code yX2_setThing cX2_setThing 4 none ∈ TW := tw 592 (by decide +kernel) (by decide +kernel)
theorem tk_593 : Cond.methodLink "ThreeHeirsLaw" 60 yX7_note ∈ TW := tw 593 (by decide +kernel) (by decide +kernel)
theorem tk_594 : Cond.instanceMethod yX7_note ∈ TW := tw 594 (by decide +kernel) (by decide +kernel)
theorem tk_595 : Cond.selects "ThreeHeirs" yX7_note yX7_note ∈ TW := tw 595 (by decide +kernel) (by decide +kernel)
theorem tk_596 : Cond.code yX7_note cX7_note 3 (some .int) ∈ TW := tw 596 (by decide +kernel) (by decide +kernel)
theorem tk_597 : Cond.methodLink "ThreeHeirsLaw" 64 yX7_eclipse ∈ TW := tw 597 (by decide +kernel) (by decide +kernel)
theorem tk_598 : Cond.instanceMethod yX7_eclipse ∈ TW := tw 598 (by decide +kernel) (by decide +kernel)
theorem tk_599 : Cond.selects "ThreeHeirs" yX7_eclipse yX7_eclipse ∈ TW := tw 599 (by decide +kernel) (by decide +kernel)
theorem tk_600 : Cond.code yX7_eclipse cX7_eclipse 3 (some .int) ∈ TW := tw 600 (by decide +kernel) (by decide +kernel)
theorem tk_601 : Cond.methodLink "ThreeHeirsLaw" 68 yX7_drift ∈ TW := tw 601 (by decide +kernel) (by decide +kernel)
theorem tk_602 : Cond.instanceMethod yX7_drift ∈ TW := tw 602 (by decide +kernel) (by decide +kernel)
theorem tk_603 : Cond.selects "ThreeHeirs" yX7_drift yX7_drift ∈ TW := tw 603 (by decide +kernel) (by decide +kernel)
theorem tk_604 : Cond.code yX7_drift cX7_drift 4 (some .int) ∈ TW := tw 604 (by decide +kernel) (by decide +kernel)
theorem tk_605 : Cond.methodLink "ThreeHeirs" 218 yX7_meetChance ∈ TW := tw 605 (by decide +kernel) (by decide +kernel)
theorem tk_607 : Cond.instanceMethod yX7_meetChance ∈ TW := tw 607 (by decide +kernel) (by decide +kernel)
theorem tk_608 : Cond.code yX7_meetChance cX7_meetChance 4 none ∈ TW := tw 608 (by decide +kernel) (by decide +kernel)
theorem tk_609 : Cond.methodLink "ThreeHeirs" 226 yX7_draw ∈ TW := tw 609 (by decide +kernel) (by decide +kernel)
theorem tk_611 : Cond.instanceMethod yX7_draw ∈ TW := tw 611 (by decide +kernel) (by decide +kernel)
theorem tk_612 : Cond.code yX7_draw cX7_draw 4 (some .int) ∈ TW := tw 612 (by decide +kernel) (by decide +kernel)
theorem tk_613 : Cond.constantLong "ThreeHeirs" 232 (1103515245) ∈ TW := tw 613 (by decide +kernel) (by decide +kernel)
theorem tk_614 : Cond.constantLong "ThreeHeirs" 234 (12345) ∈ TW := tw 614 (by decide +kernel) (by decide +kernel)
theorem tk_615 : Cond.constantLong "ThreeHeirs" 236 (2147483647) ∈ TW := tw 615 (by decide +kernel) (by decide +kernel)
theorem tk_616 : Cond.constant "ThreeHeirs" 238 (65536) ∈ TW := tw 616 (by decide +kernel) (by decide +kernel)
theorem tk_617 : Cond.methodLink "ThreeHeirsLaw" 72 yX7_undo ∈ TW := tw 617 (by decide +kernel) (by decide +kernel)
theorem tk_618 : Cond.instanceMethod yX7_undo ∈ TW := tw 618 (by decide +kernel) (by decide +kernel)
theorem tk_619 : Cond.selects "ThreeHeirs" yX7_undo yX7_undo ∈ TW := tw 619 (by decide +kernel) (by decide +kernel)
theorem tk_620 : Cond.code yX7_undo cX7_undo 2 (some .int) ∈ TW := tw 620 (by decide +kernel) (by decide +kernel)
theorem tk_621 : Cond.methodLink "ThreeHeirs" 221 yX4_bringBack ∈ TW := tw 621 (by decide +kernel) (by decide +kernel)
theorem tk_622 : Cond.instanceMethod yX4_bringBack ∈ TW := tw 622 (by decide +kernel) (by decide +kernel)
theorem tk_623 : Cond.selects "ThreeHeirs$Past" yX4_bringBack yX4_bringBack ∈ TW := tw 623 (by decide +kernel) (by decide +kernel)
theorem tk_624 : Cond.code yX4_bringBack cX4_bringBack 3 none ∈ TW := tw 624 (by decide +kernel) (by decide +kernel)
theorem tk_625 : Cond.methodLinkNest "ThreeHeirs$Past" 29 yX7_isWithin "ThreeHeirs" ∈ NW := nw 625 (by decide +kernel) (by decide +kernel)
theorem tk_626 : Cond.methodLink "ThreeHeirsLaw" 76 yX7_whose ∈ TW := tw 626 (by decide +kernel) (by decide +kernel)
theorem tk_627 : Cond.instanceMethod yX7_whose ∈ TW := tw 627 (by decide +kernel) (by decide +kernel)
theorem tk_628 : Cond.selects "ThreeHeirs" yX7_whose yX7_whose ∈ TW := tw 628 (by decide +kernel) (by decide +kernel)
theorem tk_629 : Cond.code yX7_whose cX7_whose 2 (some .int) ∈ TW := tw 629 (by decide +kernel) (by decide +kernel)
theorem tk_630 : Cond.methodLink "ThreeHeirsLaw" 80 yX7_gets ∈ TW := tw 630 (by decide +kernel) (by decide +kernel)
theorem tk_631 : Cond.instanceMethod yX7_gets ∈ TW := tw 631 (by decide +kernel) (by decide +kernel)
theorem tk_632 : Cond.selects "ThreeHeirs" yX7_gets yX7_gets ∈ TW := tw 632 (by decide +kernel) (by decide +kernel)
theorem tk_633 : Cond.code yX7_gets cX7_gets 5 (some .int) ∈ TW := tw 633 (by decide +kernel) (by decide +kernel)
theorem tk_634 : Cond.methodLink "ThreeHeirsLaw" 84 yX7_willBe ∈ TW := tw 634 (by decide +kernel) (by decide +kernel)
theorem tk_635 : Cond.instanceMethod yX7_willBe ∈ TW := tw 635 (by decide +kernel) (by decide +kernel)
theorem tk_636 : Cond.selects "ThreeHeirs" yX7_willBe yX7_willBe ∈ TW := tw 636 (by decide +kernel) (by decide +kernel)
theorem tk_637 : Cond.code yX7_willBe cX7_willBe 3 (some .int) ∈ TW := tw 637 (by decide +kernel) (by decide +kernel)
theorem tk_638 : Cond.methodLink "ThreeHeirs" 242 yX2_eclipseEnd ∈ TW := tw 638 (by decide +kernel) (by decide +kernel)
theorem tk_639 : Cond.instanceMethod yX2_eclipseEnd ∈ TW := tw 639 (by decide +kernel) (by decide +kernel)
theorem tk_640 : Cond.selects "ThreeHeirs$Estate" yX2_eclipseEnd yX2_eclipseEnd ∈ TW := tw 640 (by decide +kernel) (by decide +kernel)
theorem tk_641 : Cond.code yX2_eclipseEnd cX2_eclipseEnd 1 (some .int) ∈ TW := tw 641 (by decide +kernel) (by decide +kernel)
theorem tk_642 : Cond.methodLink "ThreeHeirs" 245 yX1_valueAfter ∈ TW := tw 642 (by decide +kernel) (by decide +kernel)
theorem tk_643 : Cond.instanceMethod yX1_valueAfter ∈ TW := tw 643 (by decide +kernel) (by decide +kernel)
theorem tk_644 : Cond.selects "ThreeHeirs$County" yX1_valueAfter yX1_valueAfter ∈ TW := tw 644 (by decide +kernel) (by decide +kernel)
theorem tk_645 : Cond.code yX1_valueAfter cX1_valueAfter 9 (some .int) ∈ TW := tw 645 (by decide +kernel) (by decide +kernel)
theorem tk_646 : Cond.methodLink "ThreeHeirs$County" 78 yX1_holderByLight ∈ TW := tw 646 (by decide +kernel) (by decide +kernel)
theorem tk_647 : Cond.methodLink "ThreeHeirs$County" 81 yX1_behindHour ∈ TW := tw 647 (by decide +kernel) (by decide +kernel)
theorem tk_648 : Cond.methodLink "ThreeHeirsLaw" 88 yX7_next ∈ TW := tw 648 (by decide +kernel) (by decide +kernel)
theorem tk_649 : Cond.instanceMethod yX7_next ∈ TW := tw 649 (by decide +kernel) (by decide +kernel)
theorem tk_650 : Cond.selects "ThreeHeirs" yX7_next yX7_next ∈ TW := tw 650 (by decide +kernel) (by decide +kernel)
theorem tk_651 : Cond.code yX7_next cX7_next 3 (some .int) ∈ TW := tw 651 (by decide +kernel) (by decide +kernel)
theorem tk_652 : Cond.methodLink "ThreeHeirsLaw" 92 yX7_keepSo ∈ TW := tw 652 (by decide +kernel) (by decide +kernel)
theorem tk_653 : Cond.instanceMethod yX7_keepSo ∈ TW := tw 653 (by decide +kernel) (by decide +kernel)
theorem tk_654 : Cond.selects "ThreeHeirs" yX7_keepSo yX7_keepSo ∈ TW := tw 654 (by decide +kernel) (by decide +kernel)
theorem tk_655 : Cond.code yX7_keepSo cX7_keepSo 10 (some .int) ∈ TW := tw 655 (by decide +kernel) (by decide +kernel)
theorem tk_656 : Cond.methodLink "ThreeHeirs" 249 yX7_startFor ∈ TW := tw 656 (by decide +kernel) (by decide +kernel)
theorem tk_658 : Cond.instanceMethod yX7_startFor ∈ TW := tw 658 (by decide +kernel) (by decide +kernel)
theorem tk_659 : Cond.code yX7_startFor cX7_startFor 7 (some .int) ∈ TW := tw 659 (by decide +kernel) (by decide +kernel)
theorem tk_660 : Cond.methodLink "ThreeHeirsLaw" 97 yX7_agreed ∈ TW := tw 660 (by decide +kernel) (by decide +kernel)
theorem tk_661 : Cond.instanceMethod yX7_agreed ∈ TW := tw 661 (by decide +kernel) (by decide +kernel)
theorem tk_662 : Cond.selects "ThreeHeirs" yX7_agreed yX7_agreed ∈ TW := tw 662 (by decide +kernel) (by decide +kernel)
theorem tk_663 : Cond.code yX7_agreed cX7_agreed 2 (some .int) ∈ TW := tw 663 (by decide +kernel) (by decide +kernel)
theorem tk_664 : Cond.methodLink "ThreeHeirs" 253 yX1_mostMet ∈ TW := tw 664 (by decide +kernel) (by decide +kernel)
theorem tk_665 : Cond.instanceMethod yX1_mostMet ∈ TW := tw 665 (by decide +kernel) (by decide +kernel)
theorem tk_666 : Cond.selects "ThreeHeirs$County" yX1_mostMet yX1_mostMet ∈ TW := tw 666 (by decide +kernel) (by decide +kernel)
theorem tk_667 : Cond.code yX1_mostMet cX1_mostMet 3 (some .int) ∈ TW := tw 667 (by decide +kernel) (by decide +kernel)
theorem tk_668 : Cond.methodLink "ThreeHeirs$County" 88 yX1_favourite ∈ TW := tw 668 (by decide +kernel) (by decide +kernel)
theorem tk_669 : Cond.instanceMethod yX1_favourite ∈ TW := tw 669 (by decide +kernel) (by decide +kernel)
theorem tk_670 : Cond.selects "ThreeHeirs$County" yX1_favourite yX1_favourite ∈ TW := tw 670 (by decide +kernel) (by decide +kernel)
theorem tk_671 : Cond.code yX1_favourite cX1_favourite 6 (some .int) ∈ TW := tw 671 (by decide +kernel) (by decide +kernel)
theorem tk_672 : Cond.methodLink "ThreeHeirs$County" 85 yX1_voices ∈ TW := tw 672 (by decide +kernel) (by decide +kernel)
theorem tk_674 : Cond.instanceMethod yX1_voices ∈ TW := tw 674 (by decide +kernel) (by decide +kernel)
theorem tk_675 : Cond.code yX1_voices cX1_voices 5 (some .int) ∈ TW := tw 675 (by decide +kernel) (by decide +kernel)
theorem tk_676 : Cond.methodLink "ThreeHeirs" 256 yX1_favourite ∈ TW := tw 676 (by decide +kernel) (by decide +kernel)
theorem tk_677 : Cond.methodLink "ThreeHeirsLaw" 101 yX7_against ∈ TW := tw 677 (by decide +kernel) (by decide +kernel)
theorem tk_678 : Cond.instanceMethod yX7_against ∈ TW := tw 678 (by decide +kernel) (by decide +kernel)
theorem tk_679 : Cond.selects "ThreeHeirs" yX7_against yX7_against ∈ TW := tw 679 (by decide +kernel) (by decide +kernel)
theorem tk_680 : Cond.code yX7_against cX7_against 6 (some .int) ∈ TW := tw 680 (by decide +kernel) (by decide +kernel)
theorem tk_681 : Cond.methodLink "ThreeHeirs" 259 yX1_areUnlike ∈ TW := tw 681 (by decide +kernel) (by decide +kernel)
theorem tk_682 : Cond.instanceMethod yX1_areUnlike ∈ TW := tw 682 (by decide +kernel) (by decide +kernel)
theorem tk_683 : Cond.selects "ThreeHeirs$County" yX1_areUnlike yX1_areUnlike ∈ TW := tw 683 (by decide +kernel) (by decide +kernel)
theorem tk_684 : Cond.code yX1_areUnlike cX1_areUnlike 3 (some .boolean) ∈ TW := tw 684 (by decide +kernel) (by decide +kernel)
theorem tk_685 : Cond.methodLink "ThreeHeirsLaw" 105 yX7_movers ∈ TW := tw 685 (by decide +kernel) (by decide +kernel)
theorem tk_686 : Cond.instanceMethod yX7_movers ∈ TW := tw 686 (by decide +kernel) (by decide +kernel)
theorem tk_687 : Cond.selects "ThreeHeirs" yX7_movers yX7_movers ∈ TW := tw 687 (by decide +kernel) (by decide +kernel)
theorem tk_688 : Cond.code yX7_movers cX7_movers 7 (some .int) ∈ TW := tw 688 (by decide +kernel) (by decide +kernel)
theorem tk_689 : Cond.methodLink "ThreeHeirs" 263 yX1_holderByLight ∈ TW := tw 689 (by decide +kernel) (by decide +kernel)
theorem tk_690 : Cond.methodLink "ThreeHeirsLaw" 110 yX7_poorest ∈ TW := tw 690 (by decide +kernel) (by decide +kernel)
theorem tk_691 : Cond.instanceMethod yX7_poorest ∈ TW := tw 691 (by decide +kernel) (by decide +kernel)
theorem tk_692 : Cond.selects "ThreeHeirs" yX7_poorest yX7_poorest ∈ TW := tw 692 (by decide +kernel) (by decide +kernel)
theorem tk_693 : Cond.code yX7_poorest cX7_poorest 3 (some .int) ∈ TW := tw 693 (by decide +kernel) (by decide +kernel)
theorem tk_694 : Cond.methodLink "ThreeHeirs" 266 yX1_darkPoorest ∈ TW := tw 694 (by decide +kernel) (by decide +kernel)
theorem tk_695 : Cond.instanceMethod yX1_darkPoorest ∈ TW := tw 695 (by decide +kernel) (by decide +kernel)
theorem tk_696 : Cond.selects "ThreeHeirs$County" yX1_darkPoorest yX1_darkPoorest ∈ TW := tw 696 (by decide +kernel) (by decide +kernel)
theorem tk_697 : Cond.code yX1_darkPoorest cX1_darkPoorest 3 (some .int) ∈ TW := tw 697 (by decide +kernel) (by decide +kernel)
theorem tk_698 : Cond.methodLink "ThreeHeirs$County" 75 yX1_darkHours ∈ TW := tw 698 (by decide +kernel) (by decide +kernel)
theorem tk_699 : Cond.instanceMethod yX1_darkHours ∈ TW := tw 699 (by decide +kernel) (by decide +kernel)
theorem tk_700 : Cond.selects "ThreeHeirs$County" yX1_darkHours yX1_darkHours ∈ TW := tw 700 (by decide +kernel) (by decide +kernel)
theorem tk_701 : Cond.code yX1_darkHours cX1_darkHours 2 (some .int) ∈ TW := tw 701 (by decide +kernel) (by decide +kernel)
theorem tk_702 : Cond.methodLink "ThreeHeirs" 269 yX1_darkHours ∈ TW := tw 702 (by decide +kernel) (by decide +kernel)
theorem tk_703 : Cond.methodLink "ThreeHeirsLaw" 114 yX7_light ∈ TW := tw 703 (by decide +kernel) (by decide +kernel)
theorem tk_704 : Cond.instanceMethod yX7_light ∈ TW := tw 704 (by decide +kernel) (by decide +kernel)
theorem tk_705 : Cond.selects "ThreeHeirs" yX7_light yX7_light ∈ TW := tw 705 (by decide +kernel) (by decide +kernel)
theorem tk_706 : Cond.code yX7_light cX7_light 3 (some .int) ∈ TW := tw 706 (by decide +kernel) (by decide +kernel)
theorem tk_707 : Cond.methodLink "ThreeHeirs" 272 yX1_lightFrom ∈ TW := tw 707 (by decide +kernel) (by decide +kernel)
theorem tk_708 : Cond.methodLink "ThreeHeirs" 275 yX1_lightTo ∈ TW := tw 708 (by decide +kernel) (by decide +kernel)
theorem tk_709 : Cond.methodLink "ThreeHeirsLaw" 118 yX7_child ∈ TW := tw 709 (by decide +kernel) (by decide +kernel)
theorem tk_710 : Cond.instanceMethod yX7_child ∈ TW := tw 710 (by decide +kernel) (by decide +kernel)
theorem tk_711 : Cond.selects "ThreeHeirs" yX7_child yX7_child ∈ TW := tw 711 (by decide +kernel) (by decide +kernel)
theorem tk_712 : Cond.code yX7_child cX7_child 6 (some .int) ∈ TW := tw 712 (by decide +kernel) (by decide +kernel)
theorem tk_713 : Cond.methodLink "ThreeHeirsLaw" 122 yX7_clear ∈ TW := tw 713 (by decide +kernel) (by decide +kernel)
theorem tk_714 : Cond.instanceMethod yX7_clear ∈ TW := tw 714 (by decide +kernel) (by decide +kernel)
theorem tk_715 : Cond.selects "ThreeHeirs" yX7_clear yX7_clear ∈ TW := tw 715 (by decide +kernel) (by decide +kernel)
theorem tk_716 : Cond.code yX7_clear cX7_clear 6 (some .int) ∈ TW := tw 716 (by decide +kernel) (by decide +kernel)
theorem tk_717 : Cond.constantLong "ThreeHeirs" 278 (1000000000) ∈ TW := tw 717 (by decide +kernel) (by decide +kernel)
theorem tk_718 : Cond.constantLong "ThreeHeirs" 280 (100) ∈ TW := tw 718 (by decide +kernel) (by decide +kernel)
theorem tk_719 : Cond.methodLink "ThreeHeirsLaw" 126 yX7_find ∈ TW := tw 719 (by decide +kernel) (by decide +kernel)
theorem tk_720 : Cond.instanceMethod yX7_find ∈ TW := tw 720 (by decide +kernel) (by decide +kernel)
theorem tk_721 : Cond.selects "ThreeHeirs" yX7_find yX7_find ∈ TW := tw 721 (by decide +kernel) (by decide +kernel)
theorem tk_722 : Cond.code yX7_find cX7_find 4 (some .int) ∈ TW := tw 722 (by decide +kernel) (by decide +kernel)
theorem tk_723 : Cond.methodLink "ThreeHeirs" 282 yX3_add ∈ TW := tw 723 (by decide +kernel) (by decide +kernel)
theorem tk_724 : Cond.instanceMethod yX3_add ∈ TW := tw 724 (by decide +kernel) (by decide +kernel)
theorem tk_725 : Cond.selects "ThreeHeirs$Finds" yX3_add yX3_add ∈ TW := tw 725 (by decide +kernel) (by decide +kernel)
theorem tk_726 : Cond.code yX3_add cX3_add 4 none ∈ TW := tw 726 (by decide +kernel) (by decide +kernel)
theorem tk_727 : Cond.methodLink "ThreeHeirsLaw" 131 yX7_fits ∈ TW := tw 727 (by decide +kernel) (by decide +kernel)
theorem tk_728 : Cond.instanceMethod yX7_fits ∈ TW := tw 728 (by decide +kernel) (by decide +kernel)
theorem tk_729 : Cond.selects "ThreeHeirs" yX7_fits yX7_fits ∈ TW := tw 729 (by decide +kernel) (by decide +kernel)
theorem tk_730 : Cond.code yX7_fits cX7_fits 2 (some .int) ∈ TW := tw 730 (by decide +kernel) (by decide +kernel)
theorem tk_731 : Cond.methodLink "ThreeHeirs" 285 yX3_fitCount ∈ TW := tw 731 (by decide +kernel) (by decide +kernel)
theorem tk_732 : Cond.instanceMethod yX3_fitCount ∈ TW := tw 732 (by decide +kernel) (by decide +kernel)
theorem tk_733 : Cond.selects "ThreeHeirs$Finds" yX3_fitCount yX3_fitCount ∈ TW := tw 733 (by decide +kernel) (by decide +kernel)
theorem tk_734 : Cond.code yX3_fitCount cX3_fitCount 5 (some .int) ∈ TW := tw 734 (by decide +kernel) (by decide +kernel)
theorem tk_735 : Cond.methodLink "ThreeHeirs$Finds" 41 yX3_fit ∈ TW := tw 735 (by decide +kernel) (by decide +kernel)
theorem tk_737 : Cond.instanceMethod yX3_fit ∈ TW := tw 737 (by decide +kernel) (by decide +kernel)
theorem tk_738 : Cond.code yX3_fit cX3_fit 6 (some .boolean) ∈ TW := tw 738 (by decide +kernel) (by decide +kernel)
theorem tk_739 : Cond.methodLink "ThreeHeirs$Finds" 32 yX3_seen ∈ TW := tw 739 (by decide +kernel) (by decide +kernel)
theorem tk_740 : Cond.static yX3_seen ∈ TW := tw 740 (by decide +kernel) (by decide +kernel)
theorem tk_741 : Cond.code yX3_seen cX3_seen 4 (some .int) ∈ TW := tw 741 (by decide +kernel) (by decide +kernel)
theorem tk_742 : Cond.methodLink "ThreeHeirs" 289 yX3_leastFit ∈ TW := tw 742 (by decide +kernel) (by decide +kernel)
theorem tk_743 : Cond.instanceMethod yX3_leastFit ∈ TW := tw 743 (by decide +kernel) (by decide +kernel)
theorem tk_744 : Cond.selects "ThreeHeirs$Finds" yX3_leastFit yX3_leastFit ∈ TW := tw 744 (by decide +kernel) (by decide +kernel)
theorem tk_745 : Cond.code yX3_leastFit cX3_leastFit 4 (some .int) ∈ TW := tw 745 (by decide +kernel) (by decide +kernel)
theorem tk_746 : Cond.methodLink "ThreeHeirsLaw" 135 yX7_lookAt ∈ TW := tw 746 (by decide +kernel) (by decide +kernel)
theorem tk_747 : Cond.instanceMethod yX7_lookAt ∈ TW := tw 747 (by decide +kernel) (by decide +kernel)
theorem tk_748 : Cond.selects "ThreeHeirs" yX7_lookAt yX7_lookAt ∈ TW := tw 748 (by decide +kernel) (by decide +kernel)
theorem tk_749 : Cond.code yX7_lookAt cX7_lookAt 5 (some .int) ∈ TW := tw 749 (by decide +kernel) (by decide +kernel)
theorem tk_750 : Cond.methodLink "ThreeHeirs" 292 yX3_greatestPart ∈ TW := tw 750 (by decide +kernel) (by decide +kernel)
theorem tk_751 : Cond.instanceMethod yX3_greatestPart ∈ TW := tw 751 (by decide +kernel) (by decide +kernel)
theorem tk_752 : Cond.selects "ThreeHeirs$Finds" yX3_greatestPart yX3_greatestPart ∈ TW := tw 752 (by decide +kernel) (by decide +kernel)
theorem tk_753 : Cond.code yX3_greatestPart cX3_greatestPart 9 (some .int) ∈ TW := tw 753 (by decide +kernel) (by decide +kernel)
theorem tk_754 : Cond.methodLinkNest "ThreeHeirs$Finds" 45 yX7_isValue "ThreeHeirs" ∈ NW := nw 754 (by decide +kernel) (by decide +kernel)
theorem tk_755 : Cond.methodLink "ThreeHeirs$Finds" 49 Lib.Math.max.name ∈ TW := tw 755 (by decide +kernel) (by decide +kernel)
theorem tk_756 : Cond.methodLink "ThreeHeirsLaw" 139 yX7_write ∈ TW := tw 756 (by decide +kernel) (by decide +kernel)
theorem tk_757 : Cond.instanceMethod yX7_write ∈ TW := tw 757 (by decide +kernel) (by decide +kernel)
theorem tk_758 : Cond.selects "ThreeHeirs" yX7_write yX7_write ∈ TW := tw 758 (by decide +kernel) (by decide +kernel)
theorem tk_759 : Cond.code yX7_write cX7_write 3 (some .int) ∈ TW := tw 759 (by decide +kernel) (by decide +kernel)
theorem tk_760 : Cond.methodLink "ThreeHeirs" 296 yX0_add ∈ TW := tw 760 (by decide +kernel) (by decide +kernel)
theorem tk_761 : Cond.instanceMethod yX0_add ∈ TW := tw 761 (by decide +kernel) (by decide +kernel)
theorem tk_762 : Cond.selects "ThreeHeirs$Book" yX0_add yX0_add ∈ TW := tw 762 (by decide +kernel) (by decide +kernel)
theorem tk_763 : Cond.code yX0_add cX0_add 3 none ∈ TW := tw 763 (by decide +kernel) (by decide +kernel)
theorem tk_764 : Cond.methodLink "ThreeHeirsLaw" 143 yX7_judge ∈ TW := tw 764 (by decide +kernel) (by decide +kernel)
theorem tk_765 : Cond.instanceMethod yX7_judge ∈ TW := tw 765 (by decide +kernel) (by decide +kernel)
theorem tk_766 : Cond.selects "ThreeHeirs" yX7_judge yX7_judge ∈ TW := tw 766 (by decide +kernel) (by decide +kernel)
theorem tk_767 : Cond.code yX7_judge cX7_judge 1 (some .int) ∈ TW := tw 767 (by decide +kernel) (by decide +kernel)
theorem tk_768 : Cond.methodLink "ThreeHeirs" 299 yX0_firstWrong ∈ TW := tw 768 (by decide +kernel) (by decide +kernel)
theorem tk_769 : Cond.instanceMethod yX0_firstWrong ∈ TW := tw 769 (by decide +kernel) (by decide +kernel)
theorem tk_770 : Cond.selects "ThreeHeirs$Book" yX0_firstWrong yX0_firstWrong ∈ TW := tw 770 (by decide +kernel) (by decide +kernel)
theorem tk_771 : Cond.code yX0_firstWrong cX0_firstWrong 3 (some .int) ∈ TW := tw 771 (by decide +kernel) (by decide +kernel)
theorem tk_772 : Cond.methodLink "ThreeHeirsLaw" 147 yX7_tear ∈ TW := tw 772 (by decide +kernel) (by decide +kernel)
theorem tk_773 : Cond.instanceMethod yX7_tear ∈ TW := tw 773 (by decide +kernel) (by decide +kernel)
theorem tk_774 : Cond.selects "ThreeHeirs" yX7_tear yX7_tear ∈ TW := tw 774 (by decide +kernel) (by decide +kernel)
theorem tk_775 : Cond.code yX7_tear cX7_tear 2 (some .int) ∈ TW := tw 775 (by decide +kernel) (by decide +kernel)
theorem tk_776 : Cond.methodLink "ThreeHeirsLaw" 151 yX7_seed ∈ TW := tw 776 (by decide +kernel) (by decide +kernel)
theorem tk_777 : Cond.instanceMethod yX7_seed ∈ TW := tw 777 (by decide +kernel) (by decide +kernel)
theorem tk_778 : Cond.selects "ThreeHeirs" yX7_seed yX7_seed ∈ TW := tw 778 (by decide +kernel) (by decide +kernel)
theorem tk_779 : Cond.code yX7_seed cX7_seed 3 (some .int) ∈ TW := tw 779 (by decide +kernel) (by decide +kernel)
theorem tk_780 : Cond.methodLink "ThreeHeirsLaw" 155 yX7_keep ∈ TW := tw 780 (by decide +kernel) (by decide +kernel)
theorem tk_781 : Cond.instanceMethod yX7_keep ∈ TW := tw 781 (by decide +kernel) (by decide +kernel)
theorem tk_782 : Cond.selects "ThreeHeirs" yX7_keep yX7_keep ∈ TW := tw 782 (by decide +kernel) (by decide +kernel)
theorem tk_783 : Cond.code yX7_keep cX7_keep 2 (some .int) ∈ TW := tw 783 (by decide +kernel) (by decide +kernel)
theorem tk_784 : Cond.methodLink "ThreeHeirs" 303 yX7_isImage ∈ TW := tw 784 (by decide +kernel) (by decide +kernel)
theorem tk_785 : Cond.static yX7_isImage ∈ TW := tw 785 (by decide +kernel) (by decide +kernel)
theorem tk_786 : Cond.code yX7_isImage cX7_isImage 1 (some .boolean) ∈ TW := tw 786 (by decide +kernel) (by decide +kernel)
theorem tk_787 : Cond.methodLink "ThreeHeirs" 306 yX2_copyOf ∈ TW := tw 787 (by decide +kernel) (by decide +kernel)
theorem tk_788 : Cond.methodLink "ThreeHeirsLaw" 159 yX7_goBack ∈ TW := tw 788 (by decide +kernel) (by decide +kernel)
theorem tk_789 : Cond.instanceMethod yX7_goBack ∈ TW := tw 789 (by decide +kernel) (by decide +kernel)
theorem tk_790 : Cond.selects "ThreeHeirs" yX7_goBack yX7_goBack ∈ TW := tw 790 (by decide +kernel) (by decide +kernel)
theorem tk_791 : Cond.code yX7_goBack cX7_goBack 2 (some .int) ∈ TW := tw 791 (by decide +kernel) (by decide +kernel)
theorem tk_792 : Cond.classLink "ThreeHeirsLaw" 10 "ThreeHeirsModel" ∈ TW := tw 792 (by decide +kernel) (by decide +kernel)
theorem tk_793 : Cond.instantiable "ThreeHeirsModel" 43 ∈ TW := tw 793 (by decide +kernel) (by decide +kernel)
theorem tk_794 : Cond.methodLink "ThreeHeirsLaw" 12 yX8_init ∈ TW := tw 794 (by decide +kernel) (by decide +kernel)
theorem tk_795 : Cond.instanceMethod yX8_init ∈ TW := tw 795 (by decide +kernel) (by decide +kernel)
theorem tk_796 : Cond.code yX8_init cX8_init 2 none ∈ TW := tw 796 (by decide +kernel) (by decide +kernel)
theorem tk_797 : Cond.methodLink "ThreeHeirsModel" 1 Lib.objectInit ∈ TW := tw 797 (by decide +kernel) (by decide +kernel)
theorem tk_798 : Cond.fieldLink "ThreeHeirsModel" 78 "ThreeHeirsModel" "letterMany" "I" ∈ TW := tw 798 (by decide +kernel) (by decide +kernel)
theorem tk_799 : Cond.fieldLink "ThreeHeirsModel" 7 "ThreeHeirsModel" "text" "[I" ∈ TW := tw 799 (by decide +kernel) (by decide +kernel)
theorem tk_800 : Cond.fieldLink "ThreeHeirsModel" 82 "ThreeHeirsModel" "readAt" "I" ∈ TW := tw 800 (by decide +kernel) (by decide +kernel)
theorem tk_801 : Cond.fieldLink "ThreeHeirsModel" 100 "ThreeHeirsModel" "numberAt" "I" ∈ TW := tw 801 (by decide +kernel) (by decide +kernel)
theorem tk_802 : Cond.fieldLink "ThreeHeirsModel" 89 "ThreeHeirsModel" "readFault" "I" ∈ TW := tw 802 (by decide +kernel) (by decide +kernel)
theorem tk_803 : Cond.fieldLink "ThreeHeirsModel" 13 "ThreeHeirsModel" "faultAt" "I" ∈ TW := tw 803 (by decide +kernel) (by decide +kernel)
theorem tk_804 : Cond.fieldLink "ThreeHeirsModel" 106 "ThreeHeirsModel" "readRise" "I" ∈ TW := tw 804 (by decide +kernel) (by decide +kernel)
theorem tk_805 : Cond.fieldLink "ThreeHeirsModel" 109 "ThreeHeirsModel" "readDark" "I" ∈ TW := tw 805 (by decide +kernel) (by decide +kernel)
theorem tk_806 : Cond.fieldLink "ThreeHeirsModel" 116 "ThreeHeirsModel" "readSeasons" "I" ∈ TW := tw 806 (by decide +kernel) (by decide +kernel)
theorem tk_807 : Cond.fieldLink "ThreeHeirsModel" 119 "ThreeHeirsModel" "readThings" "I" ∈ TW := tw 807 (by decide +kernel) (by decide +kernel)
theorem tk_808 : Cond.fieldLink "ThreeHeirsModel" 122 "ThreeHeirsModel" "readRent" "I" ∈ TW := tw 808 (by decide +kernel) (by decide +kernel)
theorem tk_809 : Cond.fieldLink "ThreeHeirsModel" 125 "ThreeHeirsModel" "readLands" "I" ∈ TW := tw 809 (by decide +kernel) (by decide +kernel)
theorem tk_810 : Cond.fieldLink "ThreeHeirsModel" 128 "ThreeHeirsModel" "readWants" "I" ∈ TW := tw 810 (by decide +kernel) (by decide +kernel)
theorem tk_811 : Cond.fieldLink "ThreeHeirsModel" 17 "ThreeHeirsModel" "readSeason" "[I" ∈ TW := tw 811 (by decide +kernel) (by decide +kernel)
theorem tk_812 : Cond.fieldLink "ThreeHeirsModel" 20 "ThreeHeirsModel" "readKind" "[I" ∈ TW := tw 812 (by decide +kernel) (by decide +kernel)
theorem tk_813 : Cond.fieldLink "ThreeHeirsModel" 23 "ThreeHeirsModel" "readValue" "[I" ∈ TW := tw 813 (by decide +kernel) (by decide +kernel)
theorem tk_814 : Cond.fieldLink "ThreeHeirsModel" 26 "ThreeHeirsModel" "readWant" "[I" ∈ TW := tw 814 (by decide +kernel) (by decide +kernel)
theorem tk_815 : Cond.fieldLink "ThreeHeirsModel" 156 "ThreeHeirsModel" "rise" "I" ∈ TW := tw 815 (by decide +kernel) (by decide +kernel)
theorem tk_816 : Cond.fieldLink "ThreeHeirsModel" 159 "ThreeHeirsModel" "dark" "I" ∈ TW := tw 816 (by decide +kernel) (by decide +kernel)
theorem tk_817 : Cond.fieldLink "ThreeHeirsModel" 162 "ThreeHeirsModel" "seasonMany" "I" ∈ TW := tw 817 (by decide +kernel) (by decide +kernel)
theorem tk_818 : Cond.fieldLink "ThreeHeirsModel" 165 "ThreeHeirsModel" "m" "I" ∈ TW := tw 818 (by decide +kernel) (by decide +kernel)
theorem tk_819 : Cond.fieldLink "ThreeHeirsModel" 168 "ThreeHeirsModel" "rent" "I" ∈ TW := tw 819 (by decide +kernel) (by decide +kernel)
theorem tk_820 : Cond.fieldLink "ThreeHeirsModel" 171 "ThreeHeirsModel" "landMany" "I" ∈ TW := tw 820 (by decide +kernel) (by decide +kernel)
theorem tk_821 : Cond.fieldLink "ThreeHeirsModel" 174 "ThreeHeirsModel" "wantMany" "I" ∈ TW := tw 821 (by decide +kernel) (by decide +kernel)
theorem tk_822 : Cond.fieldLink "ThreeHeirsModel" 29 "ThreeHeirsModel" "seasons" "[I" ∈ TW := tw 822 (by decide +kernel) (by decide +kernel)
theorem tk_823 : Cond.fieldLink "ThreeHeirsModel" 32 "ThreeHeirsModel" "kinds" "[I" ∈ TW := tw 823 (by decide +kernel) (by decide +kernel)
theorem tk_824 : Cond.fieldLink "ThreeHeirsModel" 35 "ThreeHeirsModel" "wants" "[I" ∈ TW := tw 824 (by decide +kernel) (by decide +kernel)
theorem tk_825 : Cond.fieldLink "ThreeHeirsModel" 38 "ThreeHeirsModel" "now" "[I" ∈ TW := tw 825 (by decide +kernel) (by decide +kernel)
theorem tk_826 : Cond.fieldLink "ThreeHeirsModel" 177 "ThreeHeirsModel" "undoMany" "I" ∈ TW := tw 826 (by decide +kernel) (by decide +kernel)
theorem tk_827 : Cond.fieldLink "ThreeHeirsModel" 249 "ThreeHeirsModel" "undoAt" "I" ∈ TW := tw 827 (by decide +kernel) (by decide +kernel)
theorem tk_828 : Cond.fieldLink "ThreeHeirsModel" 41 "ThreeHeirsModel" "undos" "[I" ∈ TW := tw 828 (by decide +kernel) (by decide +kernel)
theorem tk_829 : Cond.fieldLink "ThreeHeirsModel" 271 "ThreeHeirsModel" "seeded" "J" ∈ TW := tw 829 (by decide +kernel) (by decide +kernel)
theorem tk_830 : Cond.fieldLink "ThreeHeirsModel" 180 "ThreeHeirsModel" "foundMany" "I" ∈ TW := tw 830 (by decide +kernel) (by decide +kernel)
theorem tk_831 : Cond.fieldLink "ThreeHeirsModel" 44 "ThreeHeirsModel" "foundThing" "[I" ∈ TW := tw 831 (by decide +kernel) (by decide +kernel)
theorem tk_832 : Cond.fieldLink "ThreeHeirsModel" 47 "ThreeHeirsModel" "foundValue" "[I" ∈ TW := tw 832 (by decide +kernel) (by decide +kernel)
theorem tk_833 : Cond.fieldLink "ThreeHeirsModel" 50 "ThreeHeirsModel" "foundIs" "[Z" ∈ TW := tw 833 (by decide +kernel) (by decide +kernel)
theorem tk_834 : Cond.fieldLink "ThreeHeirsModel" 54 "ThreeHeirsModel" "parts" "[I" ∈ TW := tw 834 (by decide +kernel) (by decide +kernel)
theorem tk_835 : Cond.fieldLink "ThreeHeirsModel" 183 "ThreeHeirsModel" "bookMany" "I" ∈ TW := tw 835 (by decide +kernel) (by decide +kernel)
theorem tk_836 : Cond.fieldLink "ThreeHeirsModel" 57 "ThreeHeirsModel" "bookThing" "[I" ∈ TW := tw 836 (by decide +kernel) (by decide +kernel)
theorem tk_837 : Cond.fieldLink "ThreeHeirsModel" 60 "ThreeHeirsModel" "bookValue" "[I" ∈ TW := tw 837 (by decide +kernel) (by decide +kernel)
theorem tk_838 : Cond.fieldLink "ThreeHeirsModel" 63 "ThreeHeirsModel" "isKept" "[Z" ∈ TW := tw 838 (by decide +kernel) (by decide +kernel)
theorem tk_839 : Cond.fieldLink "ThreeHeirsModel" 66 "ThreeHeirsModel" "kept" "[I" ∈ TW := tw 839 (by decide +kernel) (by decide +kernel)
theorem tk_840 : Cond.fieldLink "ThreeHeirsModel" 69 "ThreeHeirsModel" "keptSeed" "[J" ∈ TW := tw 840 (by decide +kernel) (by decide +kernel)
theorem tk_929 : Cond.methodLink "ThreeHeirsLaw" 17 yX8_feed ∈ TW := tw 929 (by decide +kernel) (by decide +kernel)
theorem tk_930 : Cond.instanceMethod yX8_feed ∈ TW := tw 930 (by decide +kernel) (by decide +kernel)
theorem tk_931 : Cond.selects "ThreeHeirsModel" yX8_feed yX8_feed ∈ TW := tw 931 (by decide +kernel) (by decide +kernel)
theorem tk_932 : Cond.code yX8_feed cX8_feed 2 (some .int) ∈ TW := tw 932 (by decide +kernel) (by decide +kernel)
theorem tk_933 : Cond.methodLink "ThreeHeirsModel" 73 yX8_in ∈ TW := tw 933 (by decide +kernel) (by decide +kernel)
theorem tk_934 : Cond.static yX8_in ∈ TW := tw 934 (by decide +kernel) (by decide +kernel)
theorem tk_935 : Cond.code yX8_in cX8_in 3 (some .boolean) ∈ TW := tw 935 (by decide +kernel) (by decide +kernel)
theorem tk_936 : Cond.constant "ThreeHeirsModel" 77 (-1000000002) ∈ TW := tw 936 (by decide +kernel) (by decide +kernel)
theorem tk_937 : Cond.constant "ThreeHeirsModel" 81 (-1000000004) ∈ TW := tw 937 (by decide +kernel) (by decide +kernel)
theorem tk_938 : Cond.methodLink "ThreeHeirsLaw" 22 yX8_county ∈ TW := tw 938 (by decide +kernel) (by decide +kernel)
theorem tk_939 : Cond.instanceMethod yX8_county ∈ TW := tw 939 (by decide +kernel) (by decide +kernel)
theorem tk_940 : Cond.selects "ThreeHeirsModel" yX8_county yX8_county ∈ TW := tw 940 (by decide +kernel) (by decide +kernel)
theorem tk_941 : Cond.code yX8_county cX8_county 3 (some .int) ∈ TW := tw 941 (by decide +kernel) (by decide +kernel)
theorem tk_942 : Cond.methodLink "ThreeHeirsModel" 153 yX8_readsCounty ∈ TW := tw 942 (by decide +kernel) (by decide +kernel)
theorem tk_944 : Cond.instanceMethod yX8_readsCounty ∈ TW := tw 944 (by decide +kernel) (by decide +kernel)
theorem tk_945 : Cond.code yX8_readsCounty cX8_readsCounty 2 (some .boolean) ∈ TW := tw 945 (by decide +kernel) (by decide +kernel)
theorem tk_946 : Cond.methodLink "ThreeHeirsModel" 92 yX8_nextLetter ∈ TW := tw 946 (by decide +kernel) (by decide +kernel)
theorem tk_948 : Cond.instanceMethod yX8_nextLetter ∈ TW := tw 948 (by decide +kernel) (by decide +kernel)
theorem tk_949 : Cond.code yX8_nextLetter cX8_nextLetter 1 (some .int) ∈ TW := tw 949 (by decide +kernel) (by decide +kernel)
theorem tk_950 : Cond.methodLink "ThreeHeirsModel" 85 yX8_letterAt ∈ TW := tw 950 (by decide +kernel) (by decide +kernel)
theorem tk_952 : Cond.instanceMethod yX8_letterAt ∈ TW := tw 952 (by decide +kernel) (by decide +kernel)
theorem tk_953 : Cond.code yX8_letterAt cX8_letterAt 2 (some .int) ∈ TW := tw 953 (by decide +kernel) (by decide +kernel)
theorem tk_954 : Cond.methodLink "ThreeHeirsModel" 150 yX8_readsClause ∈ TW := tw 954 (by decide +kernel) (by decide +kernel)
theorem tk_956 : Cond.instanceMethod yX8_readsClause ∈ TW := tw 956 (by decide +kernel) (by decide +kernel)
theorem tk_957 : Cond.code yX8_readsClause cX8_readsClause 4 (some .boolean) ∈ TW := tw 957 (by decide +kernel) (by decide +kernel)
theorem tk_958 : Cond.methodLink "ThreeHeirsModel" 131 yX8_readsHead ∈ TW := tw 958 (by decide +kernel) (by decide +kernel)
theorem tk_960 : Cond.instanceMethod yX8_readsHead ∈ TW := tw 960 (by decide +kernel) (by decide +kernel)
theorem tk_961 : Cond.code yX8_readsHead cX8_readsHead 3 (some .boolean) ∈ TW := tw 961 (by decide +kernel) (by decide +kernel)
theorem tk_962 : Cond.methodLink "ThreeHeirsModel" 103 yX8_readsNumber ∈ TW := tw 962 (by decide +kernel) (by decide +kernel)
theorem tk_964 : Cond.instanceMethod yX8_readsNumber ∈ TW := tw 964 (by decide +kernel) (by decide +kernel)
theorem tk_965 : Cond.code yX8_readsNumber cX8_readsNumber 4 (some .int) ∈ TW := tw 965 (by decide +kernel) (by decide +kernel)
theorem tk_966 : Cond.methodLink "ThreeHeirsModel" 96 yX8_fails ∈ TW := tw 966 (by decide +kernel) (by decide +kernel)
theorem tk_968 : Cond.instanceMethod yX8_fails ∈ TW := tw 968 (by decide +kernel) (by decide +kernel)
theorem tk_969 : Cond.code yX8_fails cX8_fails 3 (some .int) ∈ TW := tw 969 (by decide +kernel) (by decide +kernel)
theorem tk_970 : Cond.methodLink "ThreeHeirsModel" 112 yX8_readsSign ∈ TW := tw 970 (by decide +kernel) (by decide +kernel)
theorem tk_972 : Cond.instanceMethod yX8_readsSign ∈ TW := tw 972 (by decide +kernel) (by decide +kernel)
theorem tk_973 : Cond.code yX8_readsSign cX8_readsSign 2 (some .boolean) ∈ TW := tw 973 (by decide +kernel) (by decide +kernel)
theorem tk_974 : Cond.methodLink "ThreeHeirsModel" 135 yX8_isAgain ∈ TW := tw 974 (by decide +kernel) (by decide +kernel)
theorem tk_976 : Cond.instanceMethod yX8_isAgain ∈ TW := tw 976 (by decide +kernel) (by decide +kernel)
theorem tk_977 : Cond.code yX8_isAgain cX8_isAgain 2 (some .boolean) ∈ TW := tw 977 (by decide +kernel) (by decide +kernel)
theorem tk_978 : Cond.methodLink "ThreeHeirsModel" 138 yX8_readsSeasons ∈ TW := tw 978 (by decide +kernel) (by decide +kernel)
theorem tk_980 : Cond.instanceMethod yX8_readsSeasons ∈ TW := tw 980 (by decide +kernel) (by decide +kernel)
theorem tk_981 : Cond.code yX8_readsSeasons cX8_readsSeasons 2 (some .boolean) ∈ TW := tw 981 (by decide +kernel) (by decide +kernel)
theorem tk_982 : Cond.methodLink "ThreeHeirsModel" 141 yX8_readsThing ∈ TW := tw 982 (by decide +kernel) (by decide +kernel)
theorem tk_984 : Cond.instanceMethod yX8_readsThing ∈ TW := tw 984 (by decide +kernel) (by decide +kernel)
theorem tk_985 : Cond.code yX8_readsThing cX8_readsThing 1 (some .boolean) ∈ TW := tw 985 (by decide +kernel) (by decide +kernel)
theorem tk_986 : Cond.methodLink "ThreeHeirsModel" 144 yX8_readsLand ∈ TW := tw 986 (by decide +kernel) (by decide +kernel)
theorem tk_988 : Cond.instanceMethod yX8_readsLand ∈ TW := tw 988 (by decide +kernel) (by decide +kernel)
theorem tk_989 : Cond.code yX8_readsLand cX8_readsLand 2 (some .boolean) ∈ TW := tw 989 (by decide +kernel) (by decide +kernel)
theorem tk_990 : Cond.methodLink "ThreeHeirsModel" 147 yX8_readsWant ∈ TW := tw 990 (by decide +kernel) (by decide +kernel)
theorem tk_992 : Cond.instanceMethod yX8_readsWant ∈ TW := tw 992 (by decide +kernel) (by decide +kernel)
theorem tk_993 : Cond.code yX8_readsWant cX8_readsWant 2 (some .boolean) ∈ TW := tw 993 (by decide +kernel) (by decide +kernel)
theorem tk_994 : Cond.methodLink "ThreeHeirsLaw" 26 yX8_fault ∈ TW := tw 994 (by decide +kernel) (by decide +kernel)
theorem tk_995 : Cond.instanceMethod yX8_fault ∈ TW := tw 995 (by decide +kernel) (by decide +kernel)
theorem tk_996 : Cond.selects "ThreeHeirsModel" yX8_fault yX8_fault ∈ TW := tw 996 (by decide +kernel) (by decide +kernel)
theorem tk_997 : Cond.code yX8_fault cX8_fault 1 (some .int) ∈ TW := tw 997 (by decide +kernel) (by decide +kernel)
theorem tk_998 : Cond.methodLink "ThreeHeirsLaw" 30 yX8_told ∈ TW := tw 998 (by decide +kernel) (by decide +kernel)
theorem tk_999 : Cond.instanceMethod yX8_told ∈ TW := tw 999 (by decide +kernel) (by decide +kernel)
theorem tk_1000 : Cond.selects "ThreeHeirsModel" yX8_told yX8_told ∈ TW := tw 1000 (by decide +kernel) (by decide +kernel)
theorem tk_1001 : Cond.code yX8_told cX8_told 2 (some .int) ∈ TW := tw 1001 (by decide +kernel) (by decide +kernel)
theorem tk_1002 : Cond.methodLink "ThreeHeirsModel" 221 yX8_isCounty ∈ TW := tw 1002 (by decide +kernel) (by decide +kernel)
theorem tk_1004 : Cond.instanceMethod yX8_isCounty ∈ TW := tw 1004 (by decide +kernel) (by decide +kernel)
theorem tk_1005 : Cond.code yX8_isCounty cX8_isCounty 1 (some .boolean) ∈ TW := tw 1005 (by decide +kernel) (by decide +kernel)
theorem tk_1006 : Cond.methodLink "ThreeHeirsModel" 206 yX8_heirOf ∈ TW := tw 1006 (by decide +kernel) (by decide +kernel)
theorem tk_1008 : Cond.instanceMethod yX8_heirOf ∈ TW := tw 1008 (by decide +kernel) (by decide +kernel)
theorem tk_1009 : Cond.code yX8_heirOf cX8_heirOf 2 (some .int) ∈ TW := tw 1009 (by decide +kernel) (by decide +kernel)
theorem tk_1010 : Cond.methodLink "ThreeHeirsModel" 202 yX8_almanac ∈ TW := tw 1010 (by decide +kernel) (by decide +kernel)
theorem tk_1012 : Cond.instanceMethod yX8_almanac ∈ TW := tw 1012 (by decide +kernel) (by decide +kernel)
theorem tk_1013 : Cond.code yX8_almanac cX8_almanac 2 (some .int) ∈ TW := tw 1013 (by decide +kernel) (by decide +kernel)
theorem tk_1014 : Cond.methodLink "ThreeHeirsModel" 199 yX8_holds ∈ TW := tw 1014 (by decide +kernel) (by decide +kernel)
theorem tk_1016 : Cond.instanceMethod yX8_holds ∈ TW := tw 1016 (by decide +kernel) (by decide +kernel)
theorem tk_1017 : Cond.code yX8_holds cX8_holds 3 (some .int) ∈ TW := tw 1017 (by decide +kernel) (by decide +kernel)
theorem tk_1018 : Cond.methodLink "ThreeHeirsModel" 193 yX8_lightFrom ∈ TW := tw 1018 (by decide +kernel) (by decide +kernel)
theorem tk_1020 : Cond.instanceMethod yX8_lightFrom ∈ TW := tw 1020 (by decide +kernel) (by decide +kernel)
theorem tk_1021 : Cond.code yX8_lightFrom cX8_lightFrom 2 (some .int) ∈ TW := tw 1021 (by decide +kernel) (by decide +kernel)
theorem tk_1022 : Cond.methodLink "ThreeHeirsModel" 186 yX8_seasonOf ∈ TW := tw 1022 (by decide +kernel) (by decide +kernel)
theorem tk_1024 : Cond.instanceMethod yX8_seasonOf ∈ TW := tw 1024 (by decide +kernel) (by decide +kernel)
theorem tk_1025 : Cond.code yX8_seasonOf cX8_seasonOf 2 (some .int) ∈ TW := tw 1025 (by decide +kernel) (by decide +kernel)
theorem tk_1026 : Cond.methodLink "ThreeHeirsModel" 189 yX8_bounded ∈ TW := tw 1026 (by decide +kernel) (by decide +kernel)
theorem tk_1027 : Cond.static yX8_bounded ∈ TW := tw 1027 (by decide +kernel) (by decide +kernel)
theorem tk_1028 : Cond.code yX8_bounded cX8_bounded 3 (some .int) ∈ TW := tw 1028 (by decide +kernel) (by decide +kernel)
theorem tk_1029 : Cond.methodLink "ThreeHeirsModel" 196 yX8_lightTo ∈ TW := tw 1029 (by decide +kernel) (by decide +kernel)
theorem tk_1031 : Cond.instanceMethod yX8_lightTo ∈ TW := tw 1031 (by decide +kernel) (by decide +kernel)
theorem tk_1032 : Cond.code yX8_lightTo cX8_lightTo 2 (some .int) ∈ TW := tw 1032 (by decide +kernel) (by decide +kernel)
theorem tk_1033 : Cond.methodLink "ThreeHeirsModel" 230 yX8_met ∈ TW := tw 1033 (by decide +kernel) (by decide +kernel)
theorem tk_1035 : Cond.instanceMethod yX8_met ∈ TW := tw 1035 (by decide +kernel) (by decide +kernel)
theorem tk_1036 : Cond.code yX8_met cX8_met 3 (some .int) ∈ TW := tw 1036 (by decide +kernel) (by decide +kernel)
theorem tk_1037 : Cond.methodLink "ThreeHeirsModel" 213 yX8_isMet ∈ TW := tw 1037 (by decide +kernel) (by decide +kernel)
theorem tk_1039 : Cond.instanceMethod yX8_isMet ∈ TW := tw 1039 (by decide +kernel) (by decide +kernel)
theorem tk_1040 : Cond.code yX8_isMet cX8_isMet 3 (some .boolean) ∈ TW := tw 1040 (by decide +kernel) (by decide +kernel)
theorem tk_1041 : Cond.methodLink "ThreeHeirsModel" 233 yX8_notes ∈ TW := tw 1041 (by decide +kernel) (by decide +kernel)
theorem tk_1043 : Cond.instanceMethod yX8_notes ∈ TW := tw 1043 (by decide +kernel) (by decide +kernel)
theorem tk_1044 : Cond.code yX8_notes cX8_notes 3 (some .int) ∈ TW := tw 1044 (by decide +kernel) (by decide +kernel)
theorem tk_1045 : Cond.methodLink "ThreeHeirsModel" 224 yX8_wrongAbout ∈ TW := tw 1045 (by decide +kernel) (by decide +kernel)
theorem tk_1047 : Cond.instanceMethod yX8_wrongAbout ∈ TW := tw 1047 (by decide +kernel) (by decide +kernel)
theorem tk_1048 : Cond.code yX8_wrongAbout cX8_wrongAbout 4 (some .int) ∈ TW := tw 1048 (by decide +kernel) (by decide +kernel)
theorem tk_1049 : Cond.methodLink "ThreeHeirsModel" 227 yX8_bits ∈ TW := tw 1049 (by decide +kernel) (by decide +kernel)
theorem tk_1050 : Cond.static yX8_bits ∈ TW := tw 1050 (by decide +kernel) (by decide +kernel)
theorem tk_1051 : Cond.code yX8_bits cX8_bits 3 (some .int) ∈ TW := tw 1051 (by decide +kernel) (by decide +kernel)
theorem tk_1052 : Cond.methodLink "ThreeHeirsModel" 236 yX8_envy ∈ TW := tw 1052 (by decide +kernel) (by decide +kernel)
theorem tk_1054 : Cond.instanceMethod yX8_envy ∈ TW := tw 1054 (by decide +kernel) (by decide +kernel)
theorem tk_1055 : Cond.code yX8_envy cX8_envy 4 (some .int) ∈ TW := tw 1055 (by decide +kernel) (by decide +kernel)
theorem tk_1056 : Cond.methodLink "ThreeHeirsLaw" 35 yX8_heir ∈ TW := tw 1056 (by decide +kernel) (by decide +kernel)
theorem tk_1057 : Cond.instanceMethod yX8_heir ∈ TW := tw 1057 (by decide +kernel) (by decide +kernel)
theorem tk_1058 : Cond.selects "ThreeHeirsModel" yX8_heir yX8_heir ∈ TW := tw 1058 (by decide +kernel) (by decide +kernel)
theorem tk_1059 : Cond.code yX8_heir cX8_heir 3 (some .int) ∈ TW := tw 1059 (by decide +kernel) (by decide +kernel)
theorem tk_1060 : Cond.methodLink "ThreeHeirsModel" 239 yX8_isHeir ∈ TW := tw 1060 (by decide +kernel) (by decide +kernel)
theorem tk_1061 : Cond.static yX8_isHeir ∈ TW := tw 1061 (by decide +kernel) (by decide +kernel)
theorem tk_1062 : Cond.code yX8_isHeir cX8_isHeir 1 (some .boolean) ∈ TW := tw 1062 (by decide +kernel) (by decide +kernel)
theorem tk_1063 : Cond.constant "ThreeHeirsModel" 242 (-1000000001) ∈ TW := tw 1063 (by decide +kernel) (by decide +kernel)
theorem tk_1064 : Cond.methodLink "ThreeHeirsModel" 243 yX8_wantsOf ∈ TW := tw 1064 (by decide +kernel) (by decide +kernel)
theorem tk_1066 : Cond.instanceMethod yX8_wantsOf ∈ TW := tw 1066 (by decide +kernel) (by decide +kernel)
theorem tk_1067 : Cond.code yX8_wantsOf cX8_wantsOf 4 (some .int) ∈ TW := tw 1067 (by decide +kernel) (by decide +kernel)
theorem tk_1068 : Cond.methodLink "ThreeHeirsLaw" 39 yX8_thing ∈ TW := tw 1068 (by decide +kernel) (by decide +kernel)
theorem tk_1069 : Cond.instanceMethod yX8_thing ∈ TW := tw 1069 (by decide +kernel) (by decide +kernel)
theorem tk_1070 : Cond.selects "ThreeHeirsModel" yX8_thing yX8_thing ∈ TW := tw 1070 (by decide +kernel) (by decide +kernel)
theorem tk_1071 : Cond.code yX8_thing cX8_thing 3 (some .int) ∈ TW := tw 1071 (by decide +kernel) (by decide +kernel)
theorem tk_1072 : Cond.methodLink "ThreeHeirsModel" 246 yX8_isThing ∈ TW := tw 1072 (by decide +kernel) (by decide +kernel)
theorem tk_1074 : Cond.instanceMethod yX8_isThing ∈ TW := tw 1074 (by decide +kernel) (by decide +kernel)
theorem tk_1075 : Cond.code yX8_isThing cX8_isThing 2 (some .boolean) ∈ TW := tw 1075 (by decide +kernel) (by decide +kernel)
theorem tk_1076 : Cond.methodLink "ThreeHeirsLaw" 43 yX8_want ∈ TW := tw 1076 (by decide +kernel) (by decide +kernel)
theorem tk_1077 : Cond.instanceMethod yX8_want ∈ TW := tw 1077 (by decide +kernel) (by decide +kernel)
theorem tk_1078 : Cond.selects "ThreeHeirsModel" yX8_want yX8_want ∈ TW := tw 1078 (by decide +kernel) (by decide +kernel)
theorem tk_1079 : Cond.code yX8_want cX8_want 3 (some .int) ∈ TW := tw 1079 (by decide +kernel) (by decide +kernel)
theorem tk_1080 : Cond.methodLink "ThreeHeirsLaw" 47 yX8_known ∈ TW := tw 1080 (by decide +kernel) (by decide +kernel)
theorem tk_1081 : Cond.instanceMethod yX8_known ∈ TW := tw 1081 (by decide +kernel) (by decide +kernel)
theorem tk_1082 : Cond.selects "ThreeHeirsModel" yX8_known yX8_known ∈ TW := tw 1082 (by decide +kernel) (by decide +kernel)
theorem tk_1083 : Cond.code yX8_known cX8_known 3 (some .int) ∈ TW := tw 1083 (by decide +kernel) (by decide +kernel)
theorem tk_1084 : Cond.methodLink "ThreeHeirsLaw" 51 yX8_logged ∈ TW := tw 1084 (by decide +kernel) (by decide +kernel)
theorem tk_1085 : Cond.instanceMethod yX8_logged ∈ TW := tw 1085 (by decide +kernel) (by decide +kernel)
theorem tk_1086 : Cond.selects "ThreeHeirsModel" yX8_logged yX8_logged ∈ TW := tw 1086 (by decide +kernel) (by decide +kernel)
theorem tk_1087 : Cond.code yX8_logged cX8_logged 3 (some .int) ∈ TW := tw 1087 (by decide +kernel) (by decide +kernel)
theorem tk_1088 : Cond.methodLink "ThreeHeirsLaw" 55 yX8_hour ∈ TW := tw 1088 (by decide +kernel) (by decide +kernel)
theorem tk_1089 : Cond.instanceMethod yX8_hour ∈ TW := tw 1089 (by decide +kernel) (by decide +kernel)
theorem tk_1090 : Cond.selects "ThreeHeirsModel" yX8_hour yX8_hour ∈ TW := tw 1090 (by decide +kernel) (by decide +kernel)
theorem tk_1091 : Cond.code yX8_hour cX8_hour 4 (some .int) ∈ TW := tw 1091 (by decide +kernel) (by decide +kernel)
theorem tk_1092 : Cond.methodLink "ThreeHeirsModel" 254 yX8_needHours ∈ TW := tw 1092 (by decide +kernel) (by decide +kernel)
theorem tk_1094 : Cond.instanceMethod yX8_needHours ∈ TW := tw 1094 (by decide +kernel) (by decide +kernel)
theorem tk_1095 : Cond.code yX8_needHours cX8_needHours 2 (some .int) ∈ TW := tw 1095 (by decide +kernel) (by decide +kernel)
theorem tk_1096 : Cond.constant "ThreeHeirsModel" 252 (-1000000003) ∈ TW := tw 1096 (by decide +kernel) (by decide +kernel)
theorem tk_1097 : Cond.constant "ThreeHeirsModel" 253 (90000) ∈ TW := tw 1097 (by decide +kernel) (by decide +kernel)
theorem tk_1098 : Cond.methodLink "ThreeHeirsModel" 257 yX8_remember ∈ TW := tw 1098 (by decide +kernel) (by decide +kernel)
theorem tk_1100 : Cond.instanceMethod yX8_remember ∈ TW := tw 1100 (by decide +kernel) (by decide +kernel)
theorem tk_1101 : Cond.code yX8_remember cX8_remember 2 none ∈ TW := tw 1101 (by decide +kernel) (by decide +kernel)
theorem tk_1102 : Cond.methodLink "ThreeHeirsModel" 260 yX8_passes ∈ TW := tw 1102 (by decide +kernel) (by decide +kernel)
theorem tk_1104 : Cond.instanceMethod yX8_passes ∈ TW := tw 1104 (by decide +kernel) (by decide +kernel)
theorem tk_1105 : Cond.code yX8_passes cX8_passes 5 none ∈ TW := tw 1105 (by decide +kernel) (by decide +kernel)
theorem tk_1106 : Cond.methodLink "ThreeHeirsModel" 210 yX8_capped ∈ TW := tw 1106 (by decide +kernel) (by decide +kernel)
theorem tk_1107 : Cond.static yX8_capped ∈ TW := tw 1107 (by decide +kernel) (by decide +kernel)
theorem tk_1108 : Cond.code yX8_capped cX8_capped 1 (some .int) ∈ TW := tw 1108 (by decide +kernel) (by decide +kernel)
theorem tk_1109 : Cond.constant "ThreeHeirsModel" 205 (9999999) ∈ TW := tw 1109 (by decide +kernel) (by decide +kernel)
theorem tk_1110 : Cond.methodLink "ThreeHeirsModel" 217 yX8_comes ∈ TW := tw 1110 (by decide +kernel) (by decide +kernel)
theorem tk_1112 : Cond.instanceMethod yX8_comes ∈ TW := tw 1112 (by decide +kernel) (by decide +kernel)
theorem tk_1113 : Cond.code yX8_comes cX8_comes 5 (some .int) ∈ TW := tw 1113 (by decide +kernel) (by decide +kernel)
theorem tk_1114 : Cond.methodLink "ThreeHeirsLaw" 59 yX8_put ∈ TW := tw 1114 (by decide +kernel) (by decide +kernel)
theorem tk_1115 : Cond.instanceMethod yX8_put ∈ TW := tw 1115 (by decide +kernel) (by decide +kernel)
theorem tk_1116 : Cond.selects "ThreeHeirsModel" yX8_put yX8_put ∈ TW := tw 1116 (by decide +kernel) (by decide +kernel)
theorem tk_1117 : Cond.code yX8_put cX8_put 3 (some .int) ∈ TW := tw 1117 (by decide +kernel) (by decide +kernel)
theorem tk_1118 : Cond.methodLink "ThreeHeirsModel" 264 yX8_isValue ∈ TW := tw 1118 (by decide +kernel) (by decide +kernel)
theorem tk_1119 : Cond.static yX8_isValue ∈ TW := tw 1119 (by decide +kernel) (by decide +kernel)
theorem tk_1120 : Cond.code yX8_isValue cX8_isValue 1 (some .boolean) ∈ TW := tw 1120 (by decide +kernel) (by decide +kernel)
theorem tk_1121 : Cond.methodLink "ThreeHeirsModel" 267 yX8_sets ∈ TW := tw 1121 (by decide +kernel) (by decide +kernel)
theorem tk_1123 : Cond.instanceMethod yX8_sets ∈ TW := tw 1123 (by decide +kernel) (by decide +kernel)
theorem tk_1124 : Cond.code yX8_sets cX8_sets 4 none ∈ TW := tw 1124 (by decide +kernel) (by decide +kernel)
theorem tk_1125 : Cond.methodLink "ThreeHeirsLaw" 63 yX8_note ∈ TW := tw 1125 (by decide +kernel) (by decide +kernel)
theorem tk_1126 : Cond.instanceMethod yX8_note ∈ TW := tw 1126 (by decide +kernel) (by decide +kernel)
theorem tk_1127 : Cond.selects "ThreeHeirsModel" yX8_note yX8_note ∈ TW := tw 1127 (by decide +kernel) (by decide +kernel)
theorem tk_1128 : Cond.code yX8_note cX8_note 3 (some .int) ∈ TW := tw 1128 (by decide +kernel) (by decide +kernel)
theorem tk_1129 : Cond.methodLink "ThreeHeirsLaw" 67 yX8_eclipse ∈ TW := tw 1129 (by decide +kernel) (by decide +kernel)
theorem tk_1130 : Cond.instanceMethod yX8_eclipse ∈ TW := tw 1130 (by decide +kernel) (by decide +kernel)
theorem tk_1131 : Cond.selects "ThreeHeirsModel" yX8_eclipse yX8_eclipse ∈ TW := tw 1131 (by decide +kernel) (by decide +kernel)
theorem tk_1132 : Cond.code yX8_eclipse cX8_eclipse 3 (some .int) ∈ TW := tw 1132 (by decide +kernel) (by decide +kernel)
theorem tk_1133 : Cond.methodLink "ThreeHeirsLaw" 71 yX8_drift ∈ TW := tw 1133 (by decide +kernel) (by decide +kernel)
theorem tk_1134 : Cond.instanceMethod yX8_drift ∈ TW := tw 1134 (by decide +kernel) (by decide +kernel)
theorem tk_1135 : Cond.selects "ThreeHeirsModel" yX8_drift yX8_drift ∈ TW := tw 1135 (by decide +kernel) (by decide +kernel)
theorem tk_1136 : Cond.code yX8_drift cX8_drift 6 (some .int) ∈ TW := tw 1136 (by decide +kernel) (by decide +kernel)
theorem tk_1137 : Cond.methodLink "ThreeHeirsModel" 283 yX8_draw ∈ TW := tw 1137 (by decide +kernel) (by decide +kernel)
theorem tk_1139 : Cond.instanceMethod yX8_draw ∈ TW := tw 1139 (by decide +kernel) (by decide +kernel)
theorem tk_1140 : Cond.code yX8_draw cX8_draw 2 (some .int) ∈ TW := tw 1140 (by decide +kernel) (by decide +kernel)
theorem tk_1141 : Cond.constantLong "ThreeHeirsModel" 275 (1103515245) ∈ TW := tw 1141 (by decide +kernel) (by decide +kernel)
theorem tk_1142 : Cond.constantLong "ThreeHeirsModel" 277 (12345) ∈ TW := tw 1142 (by decide +kernel) (by decide +kernel)
theorem tk_1143 : Cond.constantLong "ThreeHeirsModel" 279 (2147483648) ∈ TW := tw 1143 (by decide +kernel) (by decide +kernel)
theorem tk_1144 : Cond.constantLong "ThreeHeirsModel" 281 (65536) ∈ TW := tw 1144 (by decide +kernel) (by decide +kernel)
theorem tk_1145 : Cond.methodLink "ThreeHeirsLaw" 75 yX8_undo ∈ TW := tw 1145 (by decide +kernel) (by decide +kernel)
theorem tk_1146 : Cond.instanceMethod yX8_undo ∈ TW := tw 1146 (by decide +kernel) (by decide +kernel)
theorem tk_1147 : Cond.selects "ThreeHeirsModel" yX8_undo yX8_undo ∈ TW := tw 1147 (by decide +kernel) (by decide +kernel)
theorem tk_1148 : Cond.code yX8_undo cX8_undo 3 (some .int) ∈ TW := tw 1148 (by decide +kernel) (by decide +kernel)
theorem tk_1149 : Cond.methodLink "ThreeHeirsLaw" 79 yX8_whose ∈ TW := tw 1149 (by decide +kernel) (by decide +kernel)
theorem tk_1150 : Cond.instanceMethod yX8_whose ∈ TW := tw 1150 (by decide +kernel) (by decide +kernel)
theorem tk_1151 : Cond.selects "ThreeHeirsModel" yX8_whose yX8_whose ∈ TW := tw 1151 (by decide +kernel) (by decide +kernel)
theorem tk_1152 : Cond.code yX8_whose cX8_whose 2 (some .int) ∈ TW := tw 1152 (by decide +kernel) (by decide +kernel)
theorem tk_1153 : Cond.methodLink "ThreeHeirsModel" 286 yX8_heirIn ∈ TW := tw 1153 (by decide +kernel) (by decide +kernel)
theorem tk_1155 : Cond.instanceMethod yX8_heirIn ∈ TW := tw 1155 (by decide +kernel) (by decide +kernel)
theorem tk_1156 : Cond.code yX8_heirIn cX8_heirIn 2 (some .int) ∈ TW := tw 1156 (by decide +kernel) (by decide +kernel)
theorem tk_1157 : Cond.methodLink "ThreeHeirsLaw" 83 yX8_gets ∈ TW := tw 1157 (by decide +kernel) (by decide +kernel)
theorem tk_1158 : Cond.instanceMethod yX8_gets ∈ TW := tw 1158 (by decide +kernel) (by decide +kernel)
theorem tk_1159 : Cond.selects "ThreeHeirsModel" yX8_gets yX8_gets ∈ TW := tw 1159 (by decide +kernel) (by decide +kernel)
theorem tk_1160 : Cond.code yX8_gets cX8_gets 5 (some .int) ∈ TW := tw 1160 (by decide +kernel) (by decide +kernel)
theorem tk_1161 : Cond.methodLink "ThreeHeirsLaw" 87 yX8_willBe ∈ TW := tw 1161 (by decide +kernel) (by decide +kernel)
theorem tk_1162 : Cond.instanceMethod yX8_willBe ∈ TW := tw 1162 (by decide +kernel) (by decide +kernel)
theorem tk_1163 : Cond.selects "ThreeHeirsModel" yX8_willBe yX8_willBe ∈ TW := tw 1163 (by decide +kernel) (by decide +kernel)
theorem tk_1164 : Cond.code yX8_willBe cX8_willBe 3 (some .int) ∈ TW := tw 1164 (by decide +kernel) (by decide +kernel)
theorem tk_1165 : Cond.methodLink "ThreeHeirsModel" 289 yX8_comesTo ∈ TW := tw 1165 (by decide +kernel) (by decide +kernel)
theorem tk_1167 : Cond.instanceMethod yX8_comesTo ∈ TW := tw 1167 (by decide +kernel) (by decide +kernel)
theorem tk_1168 : Cond.code yX8_comesTo cX8_comesTo 7 (some .int) ∈ TW := tw 1168 (by decide +kernel) (by decide +kernel)
theorem tk_1169 : Cond.methodLink "ThreeHeirsLaw" 91 yX8_next ∈ TW := tw 1169 (by decide +kernel) (by decide +kernel)
theorem tk_1170 : Cond.instanceMethod yX8_next ∈ TW := tw 1170 (by decide +kernel) (by decide +kernel)
theorem tk_1171 : Cond.selects "ThreeHeirsModel" yX8_next yX8_next ∈ TW := tw 1171 (by decide +kernel) (by decide +kernel)
theorem tk_1172 : Cond.code yX8_next cX8_next 3 (some .int) ∈ TW := tw 1172 (by decide +kernel) (by decide +kernel)
theorem tk_1173 : Cond.methodLink "ThreeHeirsLaw" 96 yX8_keepSo ∈ TW := tw 1173 (by decide +kernel) (by decide +kernel)
theorem tk_1174 : Cond.instanceMethod yX8_keepSo ∈ TW := tw 1174 (by decide +kernel) (by decide +kernel)
theorem tk_1175 : Cond.selects "ThreeHeirsModel" yX8_keepSo yX8_keepSo ∈ TW := tw 1175 (by decide +kernel) (by decide +kernel)
theorem tk_1176 : Cond.code yX8_keepSo cX8_keepSo 8 (some .int) ∈ TW := tw 1176 (by decide +kernel) (by decide +kernel)
theorem tk_1177 : Cond.methodLink "ThreeHeirsModel" 292 yX8_leastFor ∈ TW := tw 1177 (by decide +kernel) (by decide +kernel)
theorem tk_1179 : Cond.instanceMethod yX8_leastFor ∈ TW := tw 1179 (by decide +kernel) (by decide +kernel)
theorem tk_1180 : Cond.code yX8_leastFor cX8_leastFor 6 (some .int) ∈ TW := tw 1180 (by decide +kernel) (by decide +kernel)
theorem tk_1181 : Cond.methodLink "ThreeHeirsLaw" 100 yX8_agreed ∈ TW := tw 1181 (by decide +kernel) (by decide +kernel)
theorem tk_1182 : Cond.instanceMethod yX8_agreed ∈ TW := tw 1182 (by decide +kernel) (by decide +kernel)
theorem tk_1183 : Cond.selects "ThreeHeirsModel" yX8_agreed yX8_agreed ∈ TW := tw 1183 (by decide +kernel) (by decide +kernel)
theorem tk_1184 : Cond.code yX8_agreed cX8_agreed 4 (some .int) ∈ TW := tw 1184 (by decide +kernel) (by decide +kernel)
theorem tk_1185 : Cond.methodLink "ThreeHeirsModel" 298 yX8_mostWanted ∈ TW := tw 1185 (by decide +kernel) (by decide +kernel)
theorem tk_1187 : Cond.instanceMethod yX8_mostWanted ∈ TW := tw 1187 (by decide +kernel) (by decide +kernel)
theorem tk_1188 : Cond.code yX8_mostWanted cX8_mostWanted 6 (some .int) ∈ TW := tw 1188 (by decide +kernel) (by decide +kernel)
theorem tk_1189 : Cond.methodLink "ThreeHeirsModel" 295 yX8_wanted ∈ TW := tw 1189 (by decide +kernel) (by decide +kernel)
theorem tk_1191 : Cond.instanceMethod yX8_wanted ∈ TW := tw 1191 (by decide +kernel) (by decide +kernel)
theorem tk_1192 : Cond.code yX8_wanted cX8_wanted 5 (some .int) ∈ TW := tw 1192 (by decide +kernel) (by decide +kernel)
theorem tk_1193 : Cond.methodLink "ThreeHeirsLaw" 104 yX8_against ∈ TW := tw 1193 (by decide +kernel) (by decide +kernel)
theorem tk_1194 : Cond.instanceMethod yX8_against ∈ TW := tw 1194 (by decide +kernel) (by decide +kernel)
theorem tk_1195 : Cond.selects "ThreeHeirsModel" yX8_against yX8_against ∈ TW := tw 1195 (by decide +kernel) (by decide +kernel)
theorem tk_1196 : Cond.code yX8_against cX8_against 7 (some .int) ∈ TW := tw 1196 (by decide +kernel) (by decide +kernel)
theorem tk_1197 : Cond.methodLink "ThreeHeirsLaw" 109 yX8_movers ∈ TW := tw 1197 (by decide +kernel) (by decide +kernel)
theorem tk_1198 : Cond.instanceMethod yX8_movers ∈ TW := tw 1198 (by decide +kernel) (by decide +kernel)
theorem tk_1199 : Cond.selects "ThreeHeirsModel" yX8_movers yX8_movers ∈ TW := tw 1199 (by decide +kernel) (by decide +kernel)
theorem tk_1200 : Cond.code yX8_movers cX8_movers 7 (some .int) ∈ TW := tw 1200 (by decide +kernel) (by decide +kernel)
theorem tk_1201 : Cond.methodLink "ThreeHeirsLaw" 113 yX8_poorest ∈ TW := tw 1201 (by decide +kernel) (by decide +kernel)
theorem tk_1202 : Cond.instanceMethod yX8_poorest ∈ TW := tw 1202 (by decide +kernel) (by decide +kernel)
theorem tk_1203 : Cond.selects "ThreeHeirsModel" yX8_poorest yX8_poorest ∈ TW := tw 1203 (by decide +kernel) (by decide +kernel)
theorem tk_1204 : Cond.code yX8_poorest cX8_poorest 7 (some .int) ∈ TW := tw 1204 (by decide +kernel) (by decide +kernel)
theorem tk_1205 : Cond.methodLink "ThreeHeirsModel" 301 yX8_needWhat ∈ TW := tw 1205 (by decide +kernel) (by decide +kernel)
theorem tk_1207 : Cond.instanceMethod yX8_needWhat ∈ TW := tw 1207 (by decide +kernel) (by decide +kernel)
theorem tk_1208 : Cond.code yX8_needWhat cX8_needWhat 2 (some .int) ∈ TW := tw 1208 (by decide +kernel) (by decide +kernel)
theorem tk_1209 : Cond.methodLink "ThreeHeirsLaw" 117 yX8_light ∈ TW := tw 1209 (by decide +kernel) (by decide +kernel)
theorem tk_1210 : Cond.instanceMethod yX8_light ∈ TW := tw 1210 (by decide +kernel) (by decide +kernel)
theorem tk_1211 : Cond.selects "ThreeHeirsModel" yX8_light yX8_light ∈ TW := tw 1211 (by decide +kernel) (by decide +kernel)
theorem tk_1212 : Cond.code yX8_light cX8_light 4 (some .int) ∈ TW := tw 1212 (by decide +kernel) (by decide +kernel)
theorem tk_1213 : Cond.methodLink "ThreeHeirsLaw" 121 yX8_child ∈ TW := tw 1213 (by decide +kernel) (by decide +kernel)
theorem tk_1214 : Cond.instanceMethod yX8_child ∈ TW := tw 1214 (by decide +kernel) (by decide +kernel)
theorem tk_1215 : Cond.selects "ThreeHeirsModel" yX8_child yX8_child ∈ TW := tw 1215 (by decide +kernel) (by decide +kernel)
theorem tk_1216 : Cond.code yX8_child cX8_child 5 (some .int) ∈ TW := tw 1216 (by decide +kernel) (by decide +kernel)
theorem tk_1217 : Cond.methodLink "ThreeHeirsLaw" 125 yX8_clear ∈ TW := tw 1217 (by decide +kernel) (by decide +kernel)
theorem tk_1218 : Cond.instanceMethod yX8_clear ∈ TW := tw 1218 (by decide +kernel) (by decide +kernel)
theorem tk_1219 : Cond.selects "ThreeHeirsModel" yX8_clear yX8_clear ∈ TW := tw 1219 (by decide +kernel) (by decide +kernel)
theorem tk_1220 : Cond.code yX8_clear cX8_clear 6 (some .int) ∈ TW := tw 1220 (by decide +kernel) (by decide +kernel)
theorem tk_1221 : Cond.constantLong "ThreeHeirsModel" 304 (1000000000) ∈ TW := tw 1221 (by decide +kernel) (by decide +kernel)
theorem tk_1222 : Cond.constantLong "ThreeHeirsModel" 306 (100) ∈ TW := tw 1222 (by decide +kernel) (by decide +kernel)
theorem tk_1223 : Cond.methodLink "ThreeHeirsLaw" 130 yX8_find ∈ TW := tw 1223 (by decide +kernel) (by decide +kernel)
theorem tk_1224 : Cond.instanceMethod yX8_find ∈ TW := tw 1224 (by decide +kernel) (by decide +kernel)
theorem tk_1225 : Cond.selects "ThreeHeirsModel" yX8_find yX8_find ∈ TW := tw 1225 (by decide +kernel) (by decide +kernel)
theorem tk_1226 : Cond.code yX8_find cX8_find 4 (some .int) ∈ TW := tw 1226 (by decide +kernel) (by decide +kernel)
theorem tk_1227 : Cond.methodLink "ThreeHeirsLaw" 134 yX8_fits ∈ TW := tw 1227 (by decide +kernel) (by decide +kernel)
theorem tk_1228 : Cond.instanceMethod yX8_fits ∈ TW := tw 1228 (by decide +kernel) (by decide +kernel)
theorem tk_1229 : Cond.selects "ThreeHeirsModel" yX8_fits yX8_fits ∈ TW := tw 1229 (by decide +kernel) (by decide +kernel)
theorem tk_1230 : Cond.code yX8_fits cX8_fits 6 (some .int) ∈ TW := tw 1230 (by decide +kernel) (by decide +kernel)
theorem tk_1231 : Cond.methodLink "ThreeHeirsModel" 311 yX8_isFit ∈ TW := tw 1231 (by decide +kernel) (by decide +kernel)
theorem tk_1233 : Cond.instanceMethod yX8_isFit ∈ TW := tw 1233 (by decide +kernel) (by decide +kernel)
theorem tk_1234 : Cond.code yX8_isFit cX8_isFit 4 (some .boolean) ∈ TW := tw 1234 (by decide +kernel) (by decide +kernel)
theorem tk_1235 : Cond.methodLink "ThreeHeirsModel" 308 yX8_valueBy ∈ TW := tw 1235 (by decide +kernel) (by decide +kernel)
theorem tk_1237 : Cond.instanceMethod yX8_valueBy ∈ TW := tw 1237 (by decide +kernel) (by decide +kernel)
theorem tk_1238 : Cond.code yX8_valueBy cX8_valueBy 3 (some .int) ∈ TW := tw 1238 (by decide +kernel) (by decide +kernel)
theorem tk_1239 : Cond.methodLink "ThreeHeirsLaw" 138 yX8_lookAt ∈ TW := tw 1239 (by decide +kernel) (by decide +kernel)
theorem tk_1240 : Cond.instanceMethod yX8_lookAt ∈ TW := tw 1240 (by decide +kernel) (by decide +kernel)
theorem tk_1241 : Cond.selects "ThreeHeirsModel" yX8_lookAt yX8_lookAt ∈ TW := tw 1241 (by decide +kernel) (by decide +kernel)
theorem tk_1242 : Cond.code yX8_lookAt cX8_lookAt 5 (some .int) ∈ TW := tw 1242 (by decide +kernel) (by decide +kernel)
theorem tk_1243 : Cond.methodLink "ThreeHeirsModel" 314 yX8_fits ∈ TW := tw 1243 (by decide +kernel) (by decide +kernel)
theorem tk_1244 : Cond.methodLink "ThreeHeirsModel" 317 yX8_alike ∈ TW := tw 1244 (by decide +kernel) (by decide +kernel)
theorem tk_1246 : Cond.instanceMethod yX8_alike ∈ TW := tw 1246 (by decide +kernel) (by decide +kernel)
theorem tk_1247 : Cond.code yX8_alike cX8_alike 5 (some .int) ∈ TW := tw 1247 (by decide +kernel) (by decide +kernel)
theorem tk_1248 : Cond.methodLink "ThreeHeirsLaw" 142 yX8_write ∈ TW := tw 1248 (by decide +kernel) (by decide +kernel)
theorem tk_1249 : Cond.instanceMethod yX8_write ∈ TW := tw 1249 (by decide +kernel) (by decide +kernel)
theorem tk_1250 : Cond.selects "ThreeHeirsModel" yX8_write yX8_write ∈ TW := tw 1250 (by decide +kernel) (by decide +kernel)
theorem tk_1251 : Cond.code yX8_write cX8_write 3 (some .int) ∈ TW := tw 1251 (by decide +kernel) (by decide +kernel)
theorem tk_1252 : Cond.methodLink "ThreeHeirsLaw" 146 yX8_judge ∈ TW := tw 1252 (by decide +kernel) (by decide +kernel)
theorem tk_1253 : Cond.instanceMethod yX8_judge ∈ TW := tw 1253 (by decide +kernel) (by decide +kernel)
theorem tk_1254 : Cond.selects "ThreeHeirsModel" yX8_judge yX8_judge ∈ TW := tw 1254 (by decide +kernel) (by decide +kernel)
theorem tk_1255 : Cond.code yX8_judge cX8_judge 2 (some .int) ∈ TW := tw 1255 (by decide +kernel) (by decide +kernel)
theorem tk_1256 : Cond.methodLink "ThreeHeirsLaw" 150 yX8_tear ∈ TW := tw 1256 (by decide +kernel) (by decide +kernel)
theorem tk_1257 : Cond.instanceMethod yX8_tear ∈ TW := tw 1257 (by decide +kernel) (by decide +kernel)
theorem tk_1258 : Cond.selects "ThreeHeirsModel" yX8_tear yX8_tear ∈ TW := tw 1258 (by decide +kernel) (by decide +kernel)
theorem tk_1259 : Cond.code yX8_tear cX8_tear 2 (some .int) ∈ TW := tw 1259 (by decide +kernel) (by decide +kernel)
theorem tk_1260 : Cond.methodLink "ThreeHeirsLaw" 154 yX8_seed ∈ TW := tw 1260 (by decide +kernel) (by decide +kernel)
theorem tk_1261 : Cond.instanceMethod yX8_seed ∈ TW := tw 1261 (by decide +kernel) (by decide +kernel)
theorem tk_1262 : Cond.selects "ThreeHeirsModel" yX8_seed yX8_seed ∈ TW := tw 1262 (by decide +kernel) (by decide +kernel)
theorem tk_1263 : Cond.code yX8_seed cX8_seed 3 (some .int) ∈ TW := tw 1263 (by decide +kernel) (by decide +kernel)
theorem tk_1264 : Cond.methodLink "ThreeHeirsLaw" 158 yX8_keep ∈ TW := tw 1264 (by decide +kernel) (by decide +kernel)
theorem tk_1265 : Cond.instanceMethod yX8_keep ∈ TW := tw 1265 (by decide +kernel) (by decide +kernel)
theorem tk_1266 : Cond.selects "ThreeHeirsModel" yX8_keep yX8_keep ∈ TW := tw 1266 (by decide +kernel) (by decide +kernel)
theorem tk_1267 : Cond.code yX8_keep cX8_keep 3 (some .int) ∈ TW := tw 1267 (by decide +kernel) (by decide +kernel)
theorem tk_1268 : Cond.methodLink "ThreeHeirsLaw" 162 yX8_goBack ∈ TW := tw 1268 (by decide +kernel) (by decide +kernel)
theorem tk_1269 : Cond.instanceMethod yX8_goBack ∈ TW := tw 1269 (by decide +kernel) (by decide +kernel)
theorem tk_1270 : Cond.selects "ThreeHeirsModel" yX8_goBack yX8_goBack ∈ TW := tw 1270 (by decide +kernel) (by decide +kernel)
theorem tk_1271 : Cond.code yX8_goBack cX8_goBack 3 (some .int) ∈ TW := tw 1271 (by decide +kernel) (by decide +kernel)
def YX0_init : Ym := (yX0_init, cX0_init, 1, none, { frames := 1, cells := 2, slots := 40, locals := 20 })
def YX0_add : Ym := (yX0_add, cX0_add, 3, none, { frames := 0, cells := 0, slots := 0, locals := 0 })
def YX0_firstWrong : Ym := (yX0_firstWrong, cX0_firstWrong, 3, (some .int), { frames := 0, cells := 0, slots := 0, locals := 0 })
def YX1_init : Ym := (yX1_init, cX1_init, 1, none, { frames := 1, cells := 6, slots := 58, locals := 20 })
def YX1_empty : Ym := (yX1_empty, cX1_empty, 1, none, { frames := 0, cells := 0, slots := 0, locals := 0 })
def YX1_hasRoomFor : Ym := (yX1_hasRoomFor, cX1_hasRoomFor, 2, (some .boolean), { frames := 0, cells := 0, slots := 0, locals := 0 })
def YX1_addDay : Ym := (yX1_addDay, cX1_addDay, 3, none, { frames := 0, cells := 0, slots := 0, locals := 0 })
def YX1_addSeason : Ym := (yX1_addSeason, cX1_addSeason, 2, none, { frames := 0, cells := 0, slots := 0, locals := 0 })
def YX1_addThing : Ym := (yX1_addThing, cX1_addThing, 3, none, { frames := 0, cells := 0, slots := 0, locals := 0 })
def YX1_addLand : Ym := (yX1_addLand, cX1_addLand, 2, none, { frames := 0, cells := 0, slots := 0, locals := 0 })
def YX1_addWant : Ym := (yX1_addWant, cX1_addWant, 4, none, { frames := 0, cells := 0, slots := 0, locals := 0 })
def YX1_seasonOf : Ym := (yX1_seasonOf, cX1_seasonOf, 2, (some .int), { frames := 0, cells := 0, slots := 0, locals := 0 })
def YX1_lightFrom : Ym := (yX1_lightFrom, cX1_lightFrom, 3, (some .int), { frames := 1, cells := 0, slots := 0, locals := 21 })
def YX1_lightTo : Ym := (yX1_lightTo, cX1_lightTo, 3, (some .int), { frames := 1, cells := 0, slots := 0, locals := 21 })
def YX1_darkHours : Ym := (yX1_darkHours, cX1_darkHours, 2, (some .int), { frames := 2, cells := 0, slots := 0, locals := 43 })
def YX1_darkPoorest : Ym := (yX1_darkPoorest, cX1_darkPoorest, 3, (some .int), { frames := 3, cells := 0, slots := 0, locals := 64 })
def YX1_holderByLight : Ym := (yX1_holderByLight, cX1_holderByLight, 4, (some .int), { frames := 2, cells := 0, slots := 0, locals := 43 })
def YX1_behindHour : Ym := (yX1_behindHour, cX1_behindHour, 4, (some .int), { frames := 1, cells := 0, slots := 0, locals := 21 })
def YX1_valueAfter : Ym := (yX1_valueAfter, cX1_valueAfter, 9, (some .int), { frames := 3, cells := 0, slots := 0, locals := 66 })
def YX1_wantsOf : Ym := (yX1_wantsOf, cX1_wantsOf, 4, (some .int), { frames := 0, cells := 0, slots := 0, locals := 0 })
def YX1_voices : Ym := (yX1_voices, cX1_voices, 5, (some .int), { frames := 0, cells := 0, slots := 0, locals := 0 })
def YX1_favourite : Ym := (yX1_favourite, cX1_favourite, 6, (some .int), { frames := 1, cells := 0, slots := 0, locals := 24 })
def YX1_mostMet : Ym := (yX1_mostMet, cX1_mostMet, 3, (some .int), { frames := 2, cells := 0, slots := 0, locals := 49 })
def YX1_areUnlike : Ym := (yX1_areUnlike, cX1_areUnlike, 3, (some .boolean), { frames := 0, cells := 0, slots := 0, locals := 0 })
def YX2_init : Ym := (yX2_init, cX2_init, 1, none, { frames := 1, cells := 5, slots := 118, locals := 20 })
def YX2_begin : Ym := (yX2_begin, cX2_begin, 3, none, { frames := 0, cells := 0, slots := 0, locals := 0 })
def YX2_copyOf : Ym := (yX2_copyOf, cX2_copyOf, 2, none, { frames := 1, cells := 0, slots := 0, locals := 40 })
def YX2_eclipseEnd : Ym := (yX2_eclipseEnd, cX2_eclipseEnd, 1, (some .int), { frames := 0, cells := 0, slots := 0, locals := 0 })
def YX2_holderIn : Ym := (yX2_holderIn, cX2_holderIn, 3, (some .int), { frames := 3, cells := 0, slots := 0, locals := 66 })
def YX2_passHour : Ym := (yX2_passHour, cX2_passHour, 4, none, { frames := 4, cells := 0, slots := 0, locals := 88 })
def YX2_setThing : Ym := (yX2_setThing, cX2_setThing, 4, none, { frames := 4, cells := 0, slots := 0, locals := 88 })
def YX2_isMet : Ym := (yX2_isMet, cX2_isMet, 3, (some .boolean), { frames := 0, cells := 0, slots := 0, locals := 0 })
def YX2_unmetWants : Ym := (yX2_unmetWants, cX2_unmetWants, 5, (some .int), { frames := 1, cells := 0, slots := 0, locals := 22 })
def YX2_metWants : Ym := (yX2_metWants, cX2_metWants, 4, (some .int), { frames := 1, cells := 0, slots := 0, locals := 22 })
def YX2_wrongAbout : Ym := (yX2_wrongAbout, cX2_wrongAbout, 5, (some .int), { frames := 0, cells := 0, slots := 0, locals := 0 })
def YX2_notesNeeded : Ym := (yX2_notesNeeded, cX2_notesNeeded, 5, (some .int), { frames := 4, cells := 0, slots := 0, locals := 88 })
def YX2_envy : Ym := (yX2_envy, cX2_envy, 3, (some .int), { frames := 1, cells := 0, slots := 0, locals := 21 })
def YX3_init : Ym := (yX3_init, cX3_init, 1, none, { frames := 1, cells := 4, slots := 28, locals := 20 })
def YX3_add : Ym := (yX3_add, cX3_add, 4, none, { frames := 0, cells := 0, slots := 0, locals := 0 })
def YX3_seen : Ym := (yX3_seen, cX3_seen, 4, (some .int), { frames := 0, cells := 0, slots := 0, locals := 0 })
def YX3_fit : Ym := (yX3_fit, cX3_fit, 6, (some .boolean), { frames := 1, cells := 0, slots := 0, locals := 23 })
def YX3_fitCount : Ym := (yX3_fitCount, cX3_fitCount, 5, (some .int), { frames := 2, cells := 0, slots := 0, locals := 48 })
def YX3_leastFit : Ym := (yX3_leastFit, cX3_leastFit, 4, (some .int), { frames := 2, cells := 0, slots := 0, locals := 48 })
def YX3_greatestPart : Ym := (yX3_greatestPart, cX3_greatestPart, 9, (some .int), { frames := 2, cells := 0, slots := 0, locals := 48 })
def YX4_init : Ym := (yX4_init, cX4_init, 2, none, { frames := 2, cells := 181, slots := 3810, locals := 40 })
def YX4_forget : Ym := (yX4_forget, cX4_forget, 1, none, { frames := 0, cells := 0, slots := 0, locals := 0 })
def YX4_remember : Ym := (yX4_remember, cX4_remember, 2, none, { frames := 2, cells := 0, slots := 0, locals := 61 })
def YX4_bringBack : Ym := (yX4_bringBack, cX4_bringBack, 3, none, { frames := 2, cells := 0, slots := 0, locals := 61 })
def YX5_init : Ym := (yX5_init, cX5_init, 2, none, { frames := 2, cells := 7, slots := 72, locals := 40 })
def YX5_exchange : Ym := (yX5_exchange, cX5_exchange, 3, (some (.object "ThreeHeirs$County")), { frames := 0, cells := 0, slots := 0, locals := 0 })
def YX5_readAll : Ym := (yX5_readAll, cX5_readAll, 2, (some .boolean), { frames := 5, cells := 0, slots := 0, locals := 109 })
def YX5_accuse : Ym := (yX5_accuse, cX5_accuse, 3, none, { frames := 0, cells := 0, slots := 0, locals := 0 })
def YX5_skipBlanks : Ym := (yX5_skipBlanks, cX5_skipBlanks, 1, none, { frames := 1, cells := 0, slots := 0, locals := 21 })
def YX5_isWord : Ym := (yX5_isWord, cX5_isWord, 1, (some .boolean), { frames := 0, cells := 0, slots := 0, locals := 0 })
def YX5_isFigure : Ym := (yX5_isFigure, cX5_isFigure, 1, (some .boolean), { frames := 0, cells := 0, slots := 0, locals := 0 })
def YX5_readClause : Ym := (yX5_readClause, cX5_readClause, 2, none, { frames := 4, cells := 0, slots := 0, locals := 88 })
def YX5_readDay : Ym := (yX5_readDay, cX5_readDay, 3, none, { frames := 3, cells := 0, slots := 0, locals := 65 })
def YX5_readSeasons : Ym := (yX5_readSeasons, cX5_readSeasons, 2, none, { frames := 3, cells := 0, slots := 0, locals := 65 })
def YX5_readThing : Ym := (yX5_readThing, cX5_readThing, 3, none, { frames := 3, cells := 0, slots := 0, locals := 65 })
def YX5_readLand : Ym := (yX5_readLand, cX5_readLand, 1, none, { frames := 3, cells := 0, slots := 0, locals := 65 })
def YX5_readWant : Ym := (yX5_readWant, cX5_readWant, 4, none, { frames := 3, cells := 0, slots := 0, locals := 65 })
def YX5_readEnd : Ym := (yX5_readEnd, cX5_readEnd, 1, none, { frames := 2, cells := 0, slots := 0, locals := 41 })
def YX5_readNumber : Ym := (yX5_readNumber, cX5_readNumber, 5, (some .int), { frames := 2, cells := 0, slots := 0, locals := 41 })
def YX6_init : Ym := (yX6_init, cX6_init, 1, none, { frames := 1, cells := 1, slots := 240, locals := 20 })
def YX6_add : Ym := (yX6_add, cX6_add, 2, none, { frames := 0, cells := 0, slots := 0, locals := 0 })
def YX6_letterAt : Ym := (yX6_letterAt, cX6_letterAt, 2, (some .int), { frames := 0, cells := 0, slots := 0, locals := 0 })
def YX7_init : Ym := (yX7_init, cX7_init, 2, none, { frames := 3, cells := 228, slots := 4664, locals := 61 })
def YX7_feed : Ym := (yX7_feed, cX7_feed, 2, (some .int), { frames := 1, cells := 0, slots := 0, locals := 21 })
def YX7_county : Ym := (yX7_county, cX7_county, 2, (some .int), { frames := 6, cells := 0, slots := 0, locals := 130 })
def YX7_startAnew : Ym := (yX7_startAnew, cX7_startAnew, 2, none, { frames := 1, cells := 0, slots := 0, locals := 22 })
def YX7_fault : Ym := (yX7_fault, cX7_fault, 1, (some .int), { frames := 0, cells := 0, slots := 0, locals := 0 })
def YX7_told : Ym := (yX7_told, cX7_told, 2, (some .int), { frames := 5, cells := 0, slots := 0, locals := 112 })
def YX7_heir : Ym := (yX7_heir, cX7_heir, 3, (some .int), { frames := 1, cells := 0, slots := 0, locals := 24 })
def YX7_thing : Ym := (yX7_thing, cX7_thing, 3, (some .int), { frames := 1, cells := 0, slots := 0, locals := 21 })
def YX7_want : Ym := (yX7_want, cX7_want, 3, (some .int), { frames := 0, cells := 0, slots := 0, locals := 0 })
def YX7_known : Ym := (yX7_known, cX7_known, 3, (some .int), { frames := 1, cells := 0, slots := 0, locals := 21 })
def YX7_logged : Ym := (yX7_logged, cX7_logged, 3, (some .int), { frames := 1, cells := 0, slots := 0, locals := 22 })
def YX7_hour : Ym := (yX7_hour, cX7_hour, 4, (some .int), { frames := 5, cells := 0, slots := 0, locals := 111 })
def YX7_put : Ym := (yX7_put, cX7_put, 3, (some .int), { frames := 5, cells := 0, slots := 0, locals := 111 })
def YX7_note : Ym := (yX7_note, cX7_note, 3, (some .int), { frames := 4, cells := 0, slots := 0, locals := 88 })
def YX7_eclipse : Ym := (yX7_eclipse, cX7_eclipse, 3, (some .int), { frames := 3, cells := 0, slots := 0, locals := 82 })
def YX7_drift : Ym := (yX7_drift, cX7_drift, 4, (some .int), { frames := 6, cells := 0, slots := 0, locals := 134 })
def YX7_undo : Ym := (yX7_undo, cX7_undo, 2, (some .int), { frames := 3, cells := 0, slots := 0, locals := 83 })
def YX7_refusalOfHours : Ym := (yX7_refusalOfHours, cX7_refusalOfHours, 2, (some .int), { frames := 1, cells := 0, slots := 0, locals := 22 })
def YX7_meetChance : Ym := (yX7_meetChance, cX7_meetChance, 4, none, { frames := 5, cells := 0, slots := 0, locals := 111 })
def YX7_draw : Ym := (yX7_draw, cX7_draw, 4, (some .int), { frames := 0, cells := 0, slots := 0, locals := 0 })
def YX7_whose : Ym := (yX7_whose, cX7_whose, 2, (some .int), { frames := 4, cells := 0, slots := 0, locals := 88 })
def YX7_gets : Ym := (yX7_gets, cX7_gets, 5, (some .int), { frames := 4, cells := 0, slots := 0, locals := 88 })
def YX7_willBe : Ym := (yX7_willBe, cX7_willBe, 3, (some .int), { frames := 4, cells := 0, slots := 0, locals := 94 })
def YX7_next : Ym := (yX7_next, cX7_next, 3, (some .int), { frames := 4, cells := 0, slots := 0, locals := 88 })
def YX7_keepSo : Ym := (yX7_keepSo, cX7_keepSo, 10, (some .int), { frames := 5, cells := 0, slots := 0, locals := 120 })
def YX7_startFor : Ym := (yX7_startFor, cX7_startFor, 7, (some .int), { frames := 4, cells := 0, slots := 0, locals := 94 })
def YX7_agreed : Ym := (yX7_agreed, cX7_agreed, 2, (some .int), { frames := 3, cells := 0, slots := 0, locals := 71 })
def YX7_against : Ym := (yX7_against, cX7_against, 6, (some .int), { frames := 1, cells := 0, slots := 0, locals := 22 })
def YX7_movers : Ym := (yX7_movers, cX7_movers, 7, (some .int), { frames := 4, cells := 0, slots := 0, locals := 94 })
def YX7_poorest : Ym := (yX7_poorest, cX7_poorest, 3, (some .int), { frames := 4, cells := 0, slots := 0, locals := 86 })
def YX7_light : Ym := (yX7_light, cX7_light, 3, (some .int), { frames := 2, cells := 0, slots := 0, locals := 43 })
def YX7_child : Ym := (yX7_child, cX7_child, 6, (some .int), { frames := 3, cells := 0, slots := 0, locals := 66 })
def YX7_clear : Ym := (yX7_clear, cX7_clear, 6, (some .int), { frames := 1, cells := 0, slots := 0, locals := 22 })
def YX7_find : Ym := (yX7_find, cX7_find, 4, (some .int), { frames := 1, cells := 0, slots := 0, locals := 23 })
def YX7_fits : Ym := (yX7_fits, cX7_fits, 2, (some .int), { frames := 3, cells := 0, slots := 0, locals := 72 })
def YX7_lookAt : Ym := (yX7_lookAt, cX7_lookAt, 5, (some .int), { frames := 3, cells := 0, slots := 0, locals := 76 })
def YX7_write : Ym := (yX7_write, cX7_write, 3, (some .int), { frames := 1, cells := 0, slots := 0, locals := 22 })
def YX7_judge : Ym := (yX7_judge, cX7_judge, 1, (some .int), { frames := 1, cells := 0, slots := 0, locals := 22 })
def YX7_tear : Ym := (yX7_tear, cX7_tear, 2, (some .int), { frames := 0, cells := 0, slots := 0, locals := 0 })
def YX7_seed : Ym := (yX7_seed, cX7_seed, 3, (some .int), { frames := 0, cells := 0, slots := 0, locals := 0 })
def YX7_keep : Ym := (yX7_keep, cX7_keep, 2, (some .int), { frames := 2, cells := 0, slots := 0, locals := 61 })
def YX7_goBack : Ym := (yX7_goBack, cX7_goBack, 2, (some .int), { frames := 2, cells := 0, slots := 0, locals := 61 })
def YX7_isWithin : Ym := (yX7_isWithin, cX7_isWithin, 3, (some .boolean), { frames := 0, cells := 0, slots := 0, locals := 0 })
def YX7_isHeir : Ym := (yX7_isHeir, cX7_isHeir, 1, (some .boolean), { frames := 0, cells := 0, slots := 0, locals := 0 })
def YX7_isValue : Ym := (yX7_isValue, cX7_isValue, 1, (some .boolean), { frames := 0, cells := 0, slots := 0, locals := 0 })
def YX7_isImage : Ym := (yX7_isImage, cX7_isImage, 1, (some .boolean), { frames := 0, cells := 0, slots := 0, locals := 0 })
def YX7_isThing : Ym := (yX7_isThing, cX7_isThing, 2, (some .boolean), { frames := 0, cells := 0, slots := 0, locals := 0 })
def YX8_init : Ym := (yX8_init, cX8_init, 2, none, { frames := 1, cells := 19, slots := 4413, locals := 20 })
def YX8_in : Ym := (yX8_in, cX8_in, 3, (some .boolean), { frames := 0, cells := 0, slots := 0, locals := 0 })
def YX8_feed : Ym := (yX8_feed, cX8_feed, 2, (some .int), { frames := 1, cells := 0, slots := 0, locals := 22 })
def YX8_letterAt : Ym := (yX8_letterAt, cX8_letterAt, 2, (some .int), { frames := 0, cells := 0, slots := 0, locals := 0 })
def YX8_nextLetter : Ym := (yX8_nextLetter, cX8_nextLetter, 1, (some .int), { frames := 1, cells := 0, slots := 0, locals := 21 })
def YX8_fails : Ym := (yX8_fails, cX8_fails, 3, (some .int), { frames := 0, cells := 0, slots := 0, locals := 0 })
def YX8_readsNumber : Ym := (yX8_readsNumber, cX8_readsNumber, 4, (some .int), { frames := 2, cells := 0, slots := 0, locals := 41 })
def YX8_readsSign : Ym := (yX8_readsSign, cX8_readsSign, 2, (some .boolean), { frames := 2, cells := 0, slots := 0, locals := 41 })
def YX8_readsHead : Ym := (yX8_readsHead, cX8_readsHead, 3, (some .boolean), { frames := 3, cells := 0, slots := 0, locals := 64 })
def YX8_readsSeasons : Ym := (yX8_readsSeasons, cX8_readsSeasons, 2, (some .boolean), { frames := 3, cells := 0, slots := 0, locals := 64 })
def YX8_readsThing : Ym := (yX8_readsThing, cX8_readsThing, 1, (some .boolean), { frames := 3, cells := 0, slots := 0, locals := 64 })
def YX8_readsLand : Ym := (yX8_readsLand, cX8_readsLand, 2, (some .boolean), { frames := 3, cells := 0, slots := 0, locals := 64 })
def YX8_readsWant : Ym := (yX8_readsWant, cX8_readsWant, 2, (some .boolean), { frames := 3, cells := 0, slots := 0, locals := 64 })
def YX8_isAgain : Ym := (yX8_isAgain, cX8_isAgain, 2, (some .boolean), { frames := 0, cells := 0, slots := 0, locals := 0 })
def YX8_readsClause : Ym := (yX8_readsClause, cX8_readsClause, 4, (some .boolean), { frames := 4, cells := 0, slots := 0, locals := 86 })
def YX8_readsCounty : Ym := (yX8_readsCounty, cX8_readsCounty, 2, (some .boolean), { frames := 5, cells := 0, slots := 0, locals := 109 })
def YX8_county : Ym := (yX8_county, cX8_county, 3, (some .int), { frames := 6, cells := 0, slots := 0, locals := 130 })
def YX8_fault : Ym := (yX8_fault, cX8_fault, 1, (some .int), { frames := 0, cells := 0, slots := 0, locals := 0 })
def YX8_isCounty : Ym := (yX8_isCounty, cX8_isCounty, 1, (some .boolean), { frames := 0, cells := 0, slots := 0, locals := 0 })
def YX8_isHeir : Ym := (yX8_isHeir, cX8_isHeir, 1, (some .boolean), { frames := 1, cells := 0, slots := 0, locals := 22 })
def YX8_isThing : Ym := (yX8_isThing, cX8_isThing, 2, (some .boolean), { frames := 1, cells := 0, slots := 0, locals := 22 })
def YX8_bounded : Ym := (yX8_bounded, cX8_bounded, 3, (some .int), { frames := 0, cells := 0, slots := 0, locals := 0 })
def YX8_seasonOf : Ym := (yX8_seasonOf, cX8_seasonOf, 2, (some .int), { frames := 0, cells := 0, slots := 0, locals := 0 })
def YX8_lightFrom : Ym := (yX8_lightFrom, cX8_lightFrom, 2, (some .int), { frames := 1, cells := 0, slots := 0, locals := 22 })
def YX8_lightTo : Ym := (yX8_lightTo, cX8_lightTo, 2, (some .int), { frames := 1, cells := 0, slots := 0, locals := 22 })
def YX8_holds : Ym := (yX8_holds, cX8_holds, 3, (some .int), { frames := 2, cells := 0, slots := 0, locals := 43 })
def YX8_almanac : Ym := (yX8_almanac, cX8_almanac, 2, (some .int), { frames := 3, cells := 0, slots := 0, locals := 65 })
def YX8_heirOf : Ym := (yX8_heirOf, cX8_heirOf, 2, (some .int), { frames := 4, cells := 0, slots := 0, locals := 86 })
def YX8_comes : Ym := (yX8_comes, cX8_comes, 5, (some .int), { frames := 0, cells := 0, slots := 0, locals := 0 })
def YX8_isMet : Ym := (yX8_isMet, cX8_isMet, 3, (some .boolean), { frames := 0, cells := 0, slots := 0, locals := 0 })
def YX8_capped : Ym := (yX8_capped, cX8_capped, 1, (some .int), { frames := 0, cells := 0, slots := 0, locals := 0 })
def YX8_passes : Ym := (yX8_passes, cX8_passes, 5, none, { frames := 5, cells := 0, slots := 0, locals := 107 })
def YX8_met : Ym := (yX8_met, cX8_met, 3, (some .int), { frames := 1, cells := 0, slots := 0, locals := 22 })
def YX8_wrongAbout : Ym := (yX8_wrongAbout, cX8_wrongAbout, 4, (some .int), { frames := 0, cells := 0, slots := 0, locals := 0 })
def YX8_bits : Ym := (yX8_bits, cX8_bits, 3, (some .int), { frames := 0, cells := 0, slots := 0, locals := 0 })
def YX8_notes : Ym := (yX8_notes, cX8_notes, 3, (some .int), { frames := 5, cells := 0, slots := 0, locals := 107 })
def YX8_envy : Ym := (yX8_envy, cX8_envy, 4, (some .int), { frames := 0, cells := 0, slots := 0, locals := 0 })
def YX8_told : Ym := (yX8_told, cX8_told, 2, (some .int), { frames := 6, cells := 0, slots := 0, locals := 129 })
def YX8_wantsOf : Ym := (yX8_wantsOf, cX8_wantsOf, 4, (some .int), { frames := 0, cells := 0, slots := 0, locals := 0 })
def YX8_heir : Ym := (yX8_heir, cX8_heir, 3, (some .int), { frames := 2, cells := 0, slots := 0, locals := 42 })
def YX8_thing : Ym := (yX8_thing, cX8_thing, 3, (some .int), { frames := 2, cells := 0, slots := 0, locals := 43 })
def YX8_want : Ym := (yX8_want, cX8_want, 3, (some .int), { frames := 1, cells := 0, slots := 0, locals := 22 })
def YX8_known : Ym := (yX8_known, cX8_known, 3, (some .int), { frames := 2, cells := 0, slots := 0, locals := 43 })
def YX8_logged : Ym := (yX8_logged, cX8_logged, 3, (some .int), { frames := 1, cells := 0, slots := 0, locals := 22 })
def YX8_remember : Ym := (yX8_remember, cX8_remember, 2, none, { frames := 0, cells := 0, slots := 0, locals := 0 })
def YX8_needHours : Ym := (yX8_needHours, cX8_needHours, 2, (some .int), { frames := 1, cells := 0, slots := 0, locals := 22 })
def YX8_hour : Ym := (yX8_hour, cX8_hour, 4, (some .int), { frames := 6, cells := 0, slots := 0, locals := 131 })
def YX8_sets : Ym := (yX8_sets, cX8_sets, 4, none, { frames := 5, cells := 0, slots := 0, locals := 107 })
def YX8_isValue : Ym := (yX8_isValue, cX8_isValue, 1, (some .boolean), { frames := 1, cells := 0, slots := 0, locals := 22 })
def YX8_put : Ym := (yX8_put, cX8_put, 3, (some .int), { frames := 6, cells := 0, slots := 0, locals := 130 })
def YX8_note : Ym := (yX8_note, cX8_note, 3, (some .int), { frames := 5, cells := 0, slots := 0, locals := 107 })
def YX8_eclipse : Ym := (yX8_eclipse, cX8_eclipse, 3, (some .int), { frames := 1, cells := 0, slots := 0, locals := 22 })
def YX8_draw : Ym := (yX8_draw, cX8_draw, 2, (some .int), { frames := 0, cells := 0, slots := 0, locals := 0 })
def YX8_drift : Ym := (yX8_drift, cX8_drift, 6, (some .int), { frames := 6, cells := 0, slots := 0, locals := 131 })
def YX8_undo : Ym := (yX8_undo, cX8_undo, 3, (some .int), { frames := 1, cells := 0, slots := 0, locals := 22 })
def YX8_heirIn : Ym := (yX8_heirIn, cX8_heirIn, 2, (some .int), { frames := 4, cells := 0, slots := 0, locals := 86 })
def YX8_whose : Ym := (yX8_whose, cX8_whose, 2, (some .int), { frames := 5, cells := 0, slots := 0, locals := 107 })
def YX8_gets : Ym := (yX8_gets, cX8_gets, 5, (some .int), { frames := 5, cells := 0, slots := 0, locals := 107 })
def YX8_comesTo : Ym := (yX8_comesTo, cX8_comesTo, 7, (some .int), { frames := 5, cells := 0, slots := 0, locals := 107 })
def YX8_willBe : Ym := (yX8_willBe, cX8_willBe, 3, (some .int), { frames := 6, cells := 0, slots := 0, locals := 133 })
def YX8_next : Ym := (yX8_next, cX8_next, 3, (some .int), { frames := 5, cells := 0, slots := 0, locals := 107 })
def YX8_leastFor : Ym := (yX8_leastFor, cX8_leastFor, 6, (some .int), { frames := 6, cells := 0, slots := 0, locals := 133 })
def YX8_keepSo : Ym := (yX8_keepSo, cX8_keepSo, 8, (some .int), { frames := 7, cells := 0, slots := 0, locals := 158 })
def YX8_wanted : Ym := (yX8_wanted, cX8_wanted, 5, (some .int), { frames := 0, cells := 0, slots := 0, locals := 0 })
def YX8_mostWanted : Ym := (yX8_mostWanted, cX8_mostWanted, 6, (some .int), { frames := 1, cells := 0, slots := 0, locals := 24 })
def YX8_agreed : Ym := (yX8_agreed, cX8_agreed, 4, (some .int), { frames := 2, cells := 0, slots := 0, locals := 49 })
def YX8_against : Ym := (yX8_against, cX8_against, 7, (some .int), { frames := 2, cells := 0, slots := 0, locals := 42 })
def YX8_movers : Ym := (yX8_movers, cX8_movers, 7, (some .int), { frames := 4, cells := 0, slots := 0, locals := 86 })
def YX8_needWhat : Ym := (yX8_needWhat, cX8_needWhat, 2, (some .int), { frames := 1, cells := 0, slots := 0, locals := 22 })
def YX8_poorest : Ym := (yX8_poorest, cX8_poorest, 7, (some .int), { frames := 2, cells := 0, slots := 0, locals := 43 })
def YX8_light : Ym := (yX8_light, cX8_light, 4, (some .int), { frames := 2, cells := 0, slots := 0, locals := 43 })
def YX8_child : Ym := (yX8_child, cX8_child, 5, (some .int), { frames := 3, cells := 0, slots := 0, locals := 65 })
def YX8_clear : Ym := (yX8_clear, cX8_clear, 6, (some .int), { frames := 1, cells := 0, slots := 0, locals := 22 })
def YX8_find : Ym := (yX8_find, cX8_find, 4, (some .int), { frames := 2, cells := 0, slots := 0, locals := 43 })
def YX8_valueBy : Ym := (yX8_valueBy, cX8_valueBy, 3, (some .int), { frames := 0, cells := 0, slots := 0, locals := 0 })
def YX8_isFit : Ym := (yX8_isFit, cX8_isFit, 4, (some .boolean), { frames := 1, cells := 0, slots := 0, locals := 22 })
def YX8_fits : Ym := (yX8_fits, cX8_fits, 6, (some .int), { frames := 2, cells := 0, slots := 0, locals := 45 })
def YX8_alike : Ym := (yX8_alike, cX8_alike, 5, (some .int), { frames := 2, cells := 0, slots := 0, locals := 45 })
def YX8_lookAt : Ym := (yX8_lookAt, cX8_lookAt, 5, (some .int), { frames := 3, cells := 0, slots := 0, locals := 70 })
def YX8_write : Ym := (yX8_write, cX8_write, 3, (some .int), { frames := 2, cells := 0, slots := 0, locals := 43 })
def YX8_judge : Ym := (yX8_judge, cX8_judge, 2, (some .int), { frames := 0, cells := 0, slots := 0, locals := 0 })
def YX8_tear : Ym := (yX8_tear, cX8_tear, 2, (some .int), { frames := 0, cells := 0, slots := 0, locals := 0 })
def YX8_seed : Ym := (yX8_seed, cX8_seed, 3, (some .int), { frames := 0, cells := 0, slots := 0, locals := 0 })
def YX8_keep : Ym := (yX8_keep, cX8_keep, 3, (some .int), { frames := 1, cells := 0, slots := 0, locals := 22 })
def YX8_goBack : Ym := (yX8_goBack, cX8_goBack, 3, (some .int), { frames := 1, cells := 0, slots := 0, locals := 22 })
def YJ6_bitCount_0f7a4 : Ym := (yJ6_bitCount_0f7a4, cJ6_bitCount_0f7a4, 1, (some .int), { frames := 0, cells := 0, slots := 0, locals := 0 })
def YL_law : Ym := (yL_law, cL_law, 4, ret, room_1)
theorem okX0_init : m_ok YX0_init 0 := ⟨by decide +kernel, tk_284, tk_71, by decide, by decide, by decide +kernel⟩
theorem isX0_init : Cond.instanceMethod YX0_init.1 ∈ TW ∧ YX0_init.1.name = "<init>" ∧ YX0_init.2.2.2.1 = none := ⟨tk_283, rfl, rfl⟩
theorem okX0_add : m_ok YX0_add 2 := ⟨by decide +kernel, tk_763, tk_71, by decide, by decide, by decide +kernel⟩
theorem inX0_add : m_in YX0_add 0 := ⟨tk_761, tk_762, by decide, rfl⟩
theorem okX0_firstWrong : m_ok YX0_firstWrong 1 := ⟨by decide +kernel, tk_771, tk_71, by decide, by decide, by decide +kernel⟩
theorem inX0_firstWrong : m_in YX0_firstWrong 0 := ⟨tk_769, tk_770, by decide, rfl⟩
theorem okX1_init : m_ok YX1_init 0 := ⟨by decide +kernel, tk_110, tk_67, by decide, by decide, by decide +kernel⟩
theorem isX1_init : Cond.instanceMethod YX1_init.1 ∈ TW ∧ YX1_init.1.name = "<init>" ∧ YX1_init.2.2.2.1 = none := ⟨tk_109, rfl, rfl⟩
theorem okX1_empty : m_ok YX1_empty 0 := ⟨by decide +kernel, tk_361, tk_67, by decide, by decide, by decide +kernel⟩
theorem inX1_empty : m_in YX1_empty 1 := ⟨tk_359, tk_360, by decide, rfl⟩
theorem okX1_hasRoomFor : m_ok YX1_hasRoomFor 1 := ⟨by decide +kernel, tk_384, tk_67, by decide, by decide, by decide +kernel⟩
theorem inX1_hasRoomFor : m_in YX1_hasRoomFor 1 := ⟨tk_382, tk_383, by decide, rfl⟩
theorem okX1_addDay : m_ok YX1_addDay 2 := ⟨by decide +kernel, tk_402, tk_67, by decide, by decide, by decide +kernel⟩
theorem inX1_addDay : m_in YX1_addDay 1 := ⟨tk_400, tk_401, by decide, rfl⟩
theorem okX1_addSeason : m_ok YX1_addSeason 1 := ⟨by decide +kernel, tk_410, tk_67, by decide, by decide, by decide +kernel⟩
theorem inX1_addSeason : m_in YX1_addSeason 1 := ⟨tk_408, tk_409, by decide, rfl⟩
theorem okX1_addThing : m_ok YX1_addThing 2 := ⟨by decide +kernel, tk_418, tk_67, by decide, by decide, by decide +kernel⟩
theorem inX1_addThing : m_in YX1_addThing 1 := ⟨tk_416, tk_417, by decide, rfl⟩
theorem okX1_addLand : m_ok YX1_addLand 1 := ⟨by decide +kernel, tk_426, tk_67, by decide, by decide, by decide +kernel⟩
theorem inX1_addLand : m_in YX1_addLand 1 := ⟨tk_424, tk_425, by decide, rfl⟩
theorem okX1_addWant : m_ok YX1_addWant 3 := ⟨by decide +kernel, tk_434, tk_67, by decide, by decide, by decide +kernel⟩
theorem inX1_addWant : m_in YX1_addWant 1 := ⟨tk_432, tk_433, by decide, rfl⟩
theorem okX1_seasonOf : m_ok YX1_seasonOf 1 := ⟨by decide +kernel, tk_474, tk_67, by decide, by decide, by decide +kernel⟩
theorem inX1_seasonOf : m_in YX1_seasonOf 1 := ⟨tk_473, tk_11, by decide, rfl⟩
theorem okX1_lightFrom : m_ok YX1_lightFrom 1 := ⟨by decide +kernel, tk_470, tk_67, by decide, by decide, by decide +kernel⟩
theorem inX1_lightFrom : m_in YX1_lightFrom 1 := ⟨tk_468, tk_469, by decide, rfl⟩
theorem okX1_lightTo : m_ok YX1_lightTo 1 := ⟨by decide +kernel, tk_484, tk_67, by decide, by decide, by decide +kernel⟩
theorem inX1_lightTo : m_in YX1_lightTo 1 := ⟨tk_482, tk_483, by decide, rfl⟩
theorem okX1_darkHours : m_ok YX1_darkHours 1 := ⟨by decide +kernel, tk_701, tk_67, by decide, by decide, by decide +kernel⟩
theorem inX1_darkHours : m_in YX1_darkHours 1 := ⟨tk_699, tk_700, by decide, rfl⟩
theorem okX1_darkPoorest : m_ok YX1_darkPoorest 0 := ⟨by decide +kernel, tk_697, tk_67, by decide, by decide, by decide +kernel⟩
theorem inX1_darkPoorest : m_in YX1_darkPoorest 1 := ⟨tk_695, tk_696, by decide, rfl⟩
theorem okX1_holderByLight : m_ok YX1_holderByLight 1 := ⟨by decide +kernel, tk_466, tk_67, by decide, by decide, by decide +kernel⟩
theorem inX1_holderByLight : m_in YX1_holderByLight 1 := ⟨tk_464, tk_465, by decide, rfl⟩
theorem okX1_behindHour : m_ok YX1_behindHour 4 := ⟨by decide +kernel, tk_581, tk_67, by decide, by decide, by decide +kernel⟩
theorem stX1_behindHour : Cond.static YX1_behindHour.1 ∈ TW := tk_580
theorem okX1_valueAfter : m_ok YX1_valueAfter 5 := ⟨by decide +kernel, tk_645, tk_67, by decide, by decide, by decide +kernel⟩
theorem inX1_valueAfter : m_in YX1_valueAfter 1 := ⟨tk_643, tk_644, by decide, rfl⟩
theorem okX1_wantsOf : m_ok YX1_wantsOf 1 := ⟨by decide +kernel, tk_525, tk_67, by decide, by decide, by decide +kernel⟩
theorem inX1_wantsOf : m_in YX1_wantsOf 1 := ⟨tk_523, tk_524, by decide, rfl⟩
theorem okX1_voices : m_ok YX1_voices 2 := ⟨by decide +kernel, tk_675, tk_67, by decide, by decide, by decide +kernel⟩
theorem inX1_voices : m_in YX1_voices 1 := ⟨tk_674, tk_19, by decide, rfl⟩
theorem okX1_favourite : m_ok YX1_favourite 1 := ⟨by decide +kernel, tk_671, tk_67, by decide, by decide, by decide +kernel⟩
theorem inX1_favourite : m_in YX1_favourite 1 := ⟨tk_669, tk_670, by decide, rfl⟩
theorem okX1_mostMet : m_ok YX1_mostMet 0 := ⟨by decide +kernel, tk_667, tk_67, by decide, by decide, by decide +kernel⟩
theorem inX1_mostMet : m_in YX1_mostMet 1 := ⟨tk_665, tk_666, by decide, rfl⟩
theorem okX1_areUnlike : m_ok YX1_areUnlike 2 := ⟨by decide +kernel, tk_684, tk_67, by decide, by decide, by decide +kernel⟩
theorem inX1_areUnlike : m_in YX1_areUnlike 1 := ⟨tk_682, tk_683, by decide, rfl⟩
theorem okX2_init : m_ok YX2_init 0 := ⟨by decide +kernel, tk_199, tk_68, by decide, by decide, by decide +kernel⟩
theorem isX2_init : Cond.instanceMethod YX2_init.1 ∈ TW ∧ YX2_init.1.name = "<init>" ∧ YX2_init.2.2.2.1 = none := ⟨tk_198, rfl, rfl⟩
theorem okX2_begin : m_ok YX2_begin 1 := ⟨by decide +kernel, tk_302, tk_68, by decide, by decide, by decide +kernel⟩
theorem inX2_begin : m_in YX2_begin 2 := ⟨tk_300, tk_301, by decide, rfl⟩
theorem okX2_copyOf : m_ok YX2_copyOf 1 := ⟨by decide +kernel, tk_565, tk_68, by decide, by decide, by decide +kernel⟩
theorem inX2_copyOf : m_in YX2_copyOf 2 := ⟨tk_563, tk_564, by decide, rfl⟩
theorem okX2_eclipseEnd : m_ok YX2_eclipseEnd 0 := ⟨by decide +kernel, tk_641, tk_68, by decide, by decide, by decide +kernel⟩
theorem inX2_eclipseEnd : m_in YX2_eclipseEnd 2 := ⟨tk_639, tk_640, by decide, rfl⟩
theorem okX2_holderIn : m_ok YX2_holderIn 2 := ⟨by decide +kernel, tk_462, tk_68, by decide, by decide, by decide +kernel⟩
theorem inX2_holderIn : m_in YX2_holderIn 2 := ⟨tk_460, tk_461, by decide, rfl⟩
theorem okX2_passHour : m_ok YX2_passHour 1 := ⟨by decide +kernel, tk_572, tk_68, by decide, by decide, by decide +kernel⟩
theorem inX2_passHour : m_in YX2_passHour 2 := ⟨tk_570, tk_571, by decide, rfl⟩
theorem okX2_setThing : m_ok YX2_setThing 3 := ⟨by decide +kernel, tk_592, tk_68, by decide, by decide, by decide +kernel⟩
theorem inX2_setThing : m_in YX2_setThing 2 := ⟨tk_590, tk_591, by decide, rfl⟩
theorem okX2_isMet : m_ok YX2_isMet 2 := ⟨by decide +kernel, tk_492, tk_68, by decide, by decide, by decide +kernel⟩
theorem inX2_isMet : m_in YX2_isMet 2 := ⟨tk_491, tk_12, by decide, rfl⟩
theorem okX2_unmetWants : m_ok YX2_unmetWants 2 := ⟨by decide +kernel, tk_578, tk_68, by decide, by decide, by decide +kernel⟩
theorem inX2_unmetWants : m_in YX2_unmetWants 2 := ⟨tk_577, tk_15, by decide, rfl⟩
theorem okX2_metWants : m_ok YX2_metWants 1 := ⟨by decide +kernel, tk_488, tk_68, by decide, by decide, by decide +kernel⟩
theorem inX2_metWants : m_in YX2_metWants 2 := ⟨tk_486, tk_487, by decide, rfl⟩
theorem okX2_wrongAbout : m_ok YX2_wrongAbout 2 := ⟨by decide +kernel, tk_501, tk_68, by decide, by decide, by decide +kernel⟩
theorem inX2_wrongAbout : m_in YX2_wrongAbout 2 := ⟨tk_499, tk_500, by decide, rfl⟩
theorem okX2_notesNeeded : m_ok YX2_notesNeeded 1 := ⟨by decide +kernel, tk_496, tk_68, by decide, by decide, by decide +kernel⟩
theorem inX2_notesNeeded : m_in YX2_notesNeeded 2 := ⟨tk_494, tk_495, by decide, rfl⟩
theorem okX2_envy : m_ok YX2_envy 0 := ⟨by decide +kernel, tk_511, tk_68, by decide, by decide, by decide +kernel⟩
theorem inX2_envy : m_in YX2_envy 2 := ⟨tk_509, tk_510, by decide, rfl⟩
theorem okX3_init : m_ok YX3_init 0 := ⟨by decide +kernel, tk_260, tk_70, by decide, by decide, by decide +kernel⟩
theorem isX3_init : Cond.instanceMethod YX3_init.1 ∈ TW ∧ YX3_init.1.name = "<init>" ∧ YX3_init.2.2.2.1 = none := ⟨tk_259, rfl, rfl⟩
theorem okX3_add : m_ok YX3_add 3 := ⟨by decide +kernel, tk_726, tk_70, by decide, by decide, by decide +kernel⟩
theorem inX3_add : m_in YX3_add 3 := ⟨tk_724, tk_725, by decide, rfl⟩
theorem okX3_seen : m_ok YX3_seen 4 := ⟨by decide +kernel, tk_741, tk_70, by decide, by decide, by decide +kernel⟩
theorem stX3_seen : Cond.static YX3_seen.1 ∈ TW := tk_740
theorem okX3_fit : m_ok YX3_fit 3 := ⟨by decide +kernel, tk_738, tk_70, by decide, by decide, by decide +kernel⟩
theorem inX3_fit : m_in YX3_fit 3 := ⟨tk_737, tk_20, by decide, rfl⟩
theorem okX3_fitCount : m_ok YX3_fitCount 2 := ⟨by decide +kernel, tk_734, tk_70, by decide, by decide, by decide +kernel⟩
theorem inX3_fitCount : m_in YX3_fitCount 3 := ⟨tk_732, tk_733, by decide, rfl⟩
theorem okX3_leastFit : m_ok YX3_leastFit 2 := ⟨by decide +kernel, tk_745, tk_70, by decide, by decide, by decide +kernel⟩
theorem inX3_leastFit : m_in YX3_leastFit 3 := ⟨tk_743, tk_744, by decide, rfl⟩
theorem okX3_greatestPart : m_ok YX3_greatestPart 3 := ⟨by decide +kernel, tk_753, tk_70, by decide, by decide, by decide +kernel⟩
theorem inX3_greatestPart : m_in YX3_greatestPart 3 := ⟨tk_751, tk_752, by decide, rfl⟩
theorem okX4_init : m_ok YX4_init 0 := ⟨by decide +kernel, tk_240, tk_69, by decide, by decide, by decide +kernel⟩
theorem isX4_init : Cond.instanceMethod YX4_init.1 ∈ TW ∧ YX4_init.1.name = "<init>" ∧ YX4_init.2.2.2.1 = none := ⟨tk_239, rfl, rfl⟩
theorem okX4_forget : m_ok YX4_forget 0 := ⟨by decide +kernel, tk_450, tk_69, by decide, by decide, by decide +kernel⟩
theorem inX4_forget : m_in YX4_forget 4 := ⟨tk_448, tk_449, by decide, rfl⟩
theorem okX4_remember : m_ok YX4_remember 1 := ⟨by decide +kernel, tk_561, tk_69, by decide, by decide, by decide +kernel⟩
theorem inX4_remember : m_in YX4_remember 4 := ⟨tk_559, tk_560, by decide, rfl⟩
theorem okX4_bringBack : m_ok YX4_bringBack 2 := ⟨by decide +kernel, tk_624, tk_69, by decide, by decide, by decide +kernel⟩
theorem inX4_bringBack : m_in YX4_bringBack 4 := ⟨tk_622, tk_623, by decide, rfl⟩
theorem okX5_init : m_ok YX5_init 1 := ⟨by decide +kernel, tk_104, tk_66, by decide, by decide, by decide +kernel⟩
theorem isX5_init : Cond.instanceMethod YX5_init.1 ∈ TW ∧ YX5_init.1.name = "<init>" ∧ YX5_init.2.2.2.1 = none := ⟨tk_103, rfl, rfl⟩
theorem okX5_exchange : m_ok YX5_exchange 1 := ⟨by decide +kernel, tk_442, tk_66, by decide, by decide, by decide +kernel⟩
theorem inX5_exchange : m_in YX5_exchange 5 := ⟨tk_440, tk_441, by decide, rfl⟩
theorem okX5_readAll : m_ok YX5_readAll 0 := ⟨by decide +kernel, tk_357, tk_66, by decide, by decide, by decide +kernel⟩
theorem inX5_readAll : m_in YX5_readAll 5 := ⟨tk_355, tk_356, by decide, rfl⟩
theorem okX5_accuse : m_ok YX5_accuse 2 := ⟨by decide +kernel, tk_380, tk_66, by decide, by decide, by decide +kernel⟩
theorem inX5_accuse : m_in YX5_accuse 5 := ⟨tk_379, tk_2, by decide, rfl⟩
theorem okX5_skipBlanks : m_ok YX5_skipBlanks 0 := ⟨by decide +kernel, tk_365, tk_66, by decide, by decide, by decide +kernel⟩
theorem inX5_skipBlanks : m_in YX5_skipBlanks 5 := ⟨tk_364, tk_0, by decide, rfl⟩
theorem okX5_isWord : m_ok YX5_isWord 1 := ⟨by decide +kernel, tk_376, tk_66, by decide, by decide, by decide +kernel⟩
theorem stX5_isWord : Cond.static YX5_isWord.1 ∈ TW := tk_375
theorem okX5_isFigure : m_ok YX5_isFigure 1 := ⟨by decide +kernel, tk_395, tk_66, by decide, by decide, by decide +kernel⟩
theorem stX5_isFigure : Cond.static YX5_isFigure.1 ∈ TW := tk_394
theorem okX5_readClause : m_ok YX5_readClause 0 := ⟨by decide +kernel, tk_373, tk_66, by decide, by decide, by decide +kernel⟩
theorem inX5_readClause : m_in YX5_readClause 5 := ⟨tk_372, tk_1, by decide, rfl⟩
theorem okX5_readDay : m_ok YX5_readDay 0 := ⟨by decide +kernel, tk_388, tk_66, by decide, by decide, by decide +kernel⟩
theorem inX5_readDay : m_in YX5_readDay 5 := ⟨tk_387, tk_3, by decide, rfl⟩
theorem okX5_readSeasons : m_ok YX5_readSeasons 0 := ⟨by decide +kernel, tk_406, tk_66, by decide, by decide, by decide +kernel⟩
theorem inX5_readSeasons : m_in YX5_readSeasons 5 := ⟨tk_405, tk_5, by decide, rfl⟩
theorem okX5_readThing : m_ok YX5_readThing 0 := ⟨by decide +kernel, tk_414, tk_66, by decide, by decide, by decide +kernel⟩
theorem inX5_readThing : m_in YX5_readThing 5 := ⟨tk_413, tk_6, by decide, rfl⟩
theorem okX5_readLand : m_ok YX5_readLand 0 := ⟨by decide +kernel, tk_422, tk_66, by decide, by decide, by decide +kernel⟩
theorem inX5_readLand : m_in YX5_readLand 5 := ⟨tk_421, tk_7, by decide, rfl⟩
theorem okX5_readWant : m_ok YX5_readWant 0 := ⟨by decide +kernel, tk_430, tk_66, by decide, by decide, by decide +kernel⟩
theorem inX5_readWant : m_in YX5_readWant 5 := ⟨tk_429, tk_8, by decide, rfl⟩
theorem okX5_readEnd : m_ok YX5_readEnd 0 := ⟨by decide +kernel, tk_438, tk_66, by decide, by decide, by decide +kernel⟩
theorem inX5_readEnd : m_in YX5_readEnd 5 := ⟨tk_437, tk_9, by decide, rfl⟩
theorem okX5_readNumber : m_ok YX5_readNumber 2 := ⟨by decide +kernel, tk_392, tk_66, by decide, by decide, by decide +kernel⟩
theorem inX5_readNumber : m_in YX5_readNumber 5 := ⟨tk_391, tk_4, by decide, rfl⟩
theorem okX6_init : m_ok YX6_init 0 := ⟨by decide +kernel, tk_88, tk_65, by decide, by decide, by decide +kernel⟩
theorem isX6_init : Cond.instanceMethod YX6_init.1 ∈ TW ∧ YX6_init.1.name = "<init>" ∧ YX6_init.2.2.2.1 = none := ⟨tk_87, rfl, rfl⟩
theorem okX6_add : m_ok YX6_add 1 := ⟨by decide +kernel, tk_349, tk_65, by decide, by decide, by decide +kernel⟩
theorem inX6_add : m_in YX6_add 6 := ⟨tk_347, tk_348, by decide, rfl⟩
theorem okX6_letterAt : m_ok YX6_letterAt 1 := ⟨by decide +kernel, tk_369, tk_65, by decide, by decide, by decide +kernel⟩
theorem inX6_letterAt : m_in YX6_letterAt 6 := ⟨tk_367, tk_368, by decide, rfl⟩
theorem okX7_init : m_ok YX7_init 0 := ⟨by decide +kernel, tk_80, tk_64, by decide, by decide, by decide +kernel⟩
theorem isX7_init : Cond.instanceMethod YX7_init.1 ∈ TW ∧ YX7_init.1.name = "<init>" ∧ YX7_init.2.2.2.1 = none := ⟨tk_79, rfl, rfl⟩
theorem okX7_feed : m_ok YX7_feed 1 := ⟨by decide +kernel, tk_343, tk_64, by decide, by decide, by decide +kernel⟩
theorem inX7_feed : m_in YX7_feed 7 := ⟨tk_341, tk_342, by decide, rfl⟩
theorem okX7_county : m_ok YX7_county 0 := ⟨by decide +kernel, tk_353, tk_64, by decide, by decide, by decide +kernel⟩
theorem inX7_county : m_in YX7_county 7 := ⟨tk_351, tk_352, by decide, rfl⟩
theorem okX7_startAnew : m_ok YX7_startAnew 0 := ⟨by decide +kernel, tk_446, tk_64, by decide, by decide, by decide +kernel⟩
theorem inX7_startAnew : m_in YX7_startAnew 7 := ⟨tk_445, tk_10, by decide, rfl⟩
theorem okX7_fault : m_ok YX7_fault 0 := ⟨by decide +kernel, tk_454, tk_64, by decide, by decide, by decide +kernel⟩
theorem inX7_fault : m_in YX7_fault 7 := ⟨tk_452, tk_453, by decide, rfl⟩
theorem okX7_told : m_ok YX7_told 1 := ⟨by decide +kernel, tk_458, tk_64, by decide, by decide, by decide +kernel⟩
theorem inX7_told : m_in YX7_told 7 := ⟨tk_456, tk_457, by decide, rfl⟩
theorem okX7_heir : m_ok YX7_heir 2 := ⟨by decide +kernel, tk_517, tk_64, by decide, by decide, by decide +kernel⟩
theorem inX7_heir : m_in YX7_heir 7 := ⟨tk_515, tk_516, by decide, rfl⟩
theorem okX7_thing : m_ok YX7_thing 2 := ⟨by decide +kernel, tk_530, tk_64, by decide, by decide, by decide +kernel⟩
theorem inX7_thing : m_in YX7_thing 7 := ⟨tk_528, tk_529, by decide, rfl⟩
theorem okX7_want : m_ok YX7_want 2 := ⟨by decide +kernel, tk_538, tk_64, by decide, by decide, by decide +kernel⟩
theorem inX7_want : m_in YX7_want 7 := ⟨tk_536, tk_537, by decide, rfl⟩
theorem okX7_known : m_ok YX7_known 2 := ⟨by decide +kernel, tk_542, tk_64, by decide, by decide, by decide +kernel⟩
theorem inX7_known : m_in YX7_known 7 := ⟨tk_540, tk_541, by decide, rfl⟩
theorem okX7_logged : m_ok YX7_logged 2 := ⟨by decide +kernel, tk_546, tk_64, by decide, by decide, by decide +kernel⟩
theorem inX7_logged : m_in YX7_logged 7 := ⟨tk_544, tk_545, by decide, rfl⟩
theorem okX7_hour : m_ok YX7_hour 1 := ⟨by decide +kernel, tk_551, tk_64, by decide, by decide, by decide +kernel⟩
theorem inX7_hour : m_in YX7_hour 7 := ⟨tk_549, tk_550, by decide, rfl⟩
theorem okX7_put : m_ok YX7_put 2 := ⟨by decide +kernel, tk_585, tk_64, by decide, by decide, by decide +kernel⟩
theorem inX7_put : m_in YX7_put 7 := ⟨tk_583, tk_584, by decide, rfl⟩
theorem okX7_note : m_ok YX7_note 2 := ⟨by decide +kernel, tk_596, tk_64, by decide, by decide, by decide +kernel⟩
theorem inX7_note : m_in YX7_note 7 := ⟨tk_594, tk_595, by decide, rfl⟩
theorem okX7_eclipse : m_ok YX7_eclipse 1 := ⟨by decide +kernel, tk_600, tk_64, by decide, by decide, by decide +kernel⟩
theorem inX7_eclipse : m_in YX7_eclipse 7 := ⟨tk_598, tk_599, by decide, rfl⟩
theorem okX7_drift : m_ok YX7_drift 1 := ⟨by decide +kernel, tk_604, tk_64, by decide, by decide, by decide +kernel⟩
theorem inX7_drift : m_in YX7_drift 7 := ⟨tk_602, tk_603, by decide, rfl⟩
theorem okX7_undo : m_ok YX7_undo 1 := ⟨by decide +kernel, tk_620, tk_64, by decide, by decide, by decide +kernel⟩
theorem inX7_undo : m_in YX7_undo 7 := ⟨tk_618, tk_619, by decide, rfl⟩
theorem okX7_refusalOfHours : m_ok YX7_refusalOfHours 1 := ⟨by decide +kernel, tk_555, tk_64, by decide, by decide, by decide +kernel⟩
theorem inX7_refusalOfHours : m_in YX7_refusalOfHours 7 := ⟨tk_554, tk_14, by decide, rfl⟩
theorem okX7_meetChance : m_ok YX7_meetChance 0 := ⟨by decide +kernel, tk_608, tk_64, by decide, by decide, by decide +kernel⟩
theorem inX7_meetChance : m_in YX7_meetChance 7 := ⟨tk_607, tk_16, by decide, rfl⟩
theorem okX7_draw : m_ok YX7_draw 1 := ⟨by decide +kernel, tk_612, tk_64, by decide, by decide, by decide +kernel⟩
theorem inX7_draw : m_in YX7_draw 7 := ⟨tk_611, tk_17, by decide, rfl⟩
theorem okX7_whose : m_ok YX7_whose 1 := ⟨by decide +kernel, tk_629, tk_64, by decide, by decide, by decide +kernel⟩
theorem inX7_whose : m_in YX7_whose 7 := ⟨tk_627, tk_628, by decide, rfl⟩
theorem okX7_gets : m_ok YX7_gets 2 := ⟨by decide +kernel, tk_633, tk_64, by decide, by decide, by decide +kernel⟩
theorem inX7_gets : m_in YX7_gets 7 := ⟨tk_631, tk_632, by decide, rfl⟩
theorem okX7_willBe : m_ok YX7_willBe 2 := ⟨by decide +kernel, tk_637, tk_64, by decide, by decide, by decide +kernel⟩
theorem inX7_willBe : m_in YX7_willBe 7 := ⟨tk_635, tk_636, by decide, rfl⟩
theorem okX7_next : m_ok YX7_next 1 := ⟨by decide +kernel, tk_651, tk_64, by decide, by decide, by decide +kernel⟩
theorem inX7_next : m_in YX7_next 7 := ⟨tk_649, tk_650, by decide, rfl⟩
theorem okX7_keepSo : m_ok YX7_keepSo 5 := ⟨by decide +kernel, tk_655, tk_64, by decide, by decide, by decide +kernel⟩
theorem inX7_keepSo : m_in YX7_keepSo 7 := ⟨tk_653, tk_654, by decide, rfl⟩
theorem okX7_startFor : m_ok YX7_startFor 4 := ⟨by decide +kernel, tk_659, tk_64, by decide, by decide, by decide +kernel⟩
theorem inX7_startFor : m_in YX7_startFor 7 := ⟨tk_658, tk_18, by decide, rfl⟩
theorem okX7_agreed : m_ok YX7_agreed 1 := ⟨by decide +kernel, tk_663, tk_64, by decide, by decide, by decide +kernel⟩
theorem inX7_agreed : m_in YX7_agreed 7 := ⟨tk_661, tk_662, by decide, rfl⟩
theorem okX7_against : m_ok YX7_against 2 := ⟨by decide +kernel, tk_680, tk_64, by decide, by decide, by decide +kernel⟩
theorem inX7_against : m_in YX7_against 7 := ⟨tk_678, tk_679, by decide, rfl⟩
theorem okX7_movers : m_ok YX7_movers 3 := ⟨by decide +kernel, tk_688, tk_64, by decide, by decide, by decide +kernel⟩
theorem inX7_movers : m_in YX7_movers 7 := ⟨tk_686, tk_687, by decide, rfl⟩
theorem okX7_poorest : m_ok YX7_poorest 1 := ⟨by decide +kernel, tk_693, tk_64, by decide, by decide, by decide +kernel⟩
theorem inX7_poorest : m_in YX7_poorest 7 := ⟨tk_691, tk_692, by decide, rfl⟩
theorem okX7_light : m_ok YX7_light 1 := ⟨by decide +kernel, tk_706, tk_64, by decide, by decide, by decide +kernel⟩
theorem inX7_light : m_in YX7_light 7 := ⟨tk_704, tk_705, by decide, rfl⟩
theorem okX7_child : m_ok YX7_child 2 := ⟨by decide +kernel, tk_712, tk_64, by decide, by decide, by decide +kernel⟩
theorem inX7_child : m_in YX7_child 7 := ⟨tk_710, tk_711, by decide, rfl⟩
theorem okX7_clear : m_ok YX7_clear 2 := ⟨by decide +kernel, tk_716, tk_64, by decide, by decide, by decide +kernel⟩
theorem inX7_clear : m_in YX7_clear 7 := ⟨tk_714, tk_715, by decide, rfl⟩
theorem okX7_find : m_ok YX7_find 3 := ⟨by decide +kernel, tk_722, tk_64, by decide, by decide, by decide +kernel⟩
theorem inX7_find : m_in YX7_find 7 := ⟨tk_720, tk_721, by decide, rfl⟩
theorem okX7_fits : m_ok YX7_fits 1 := ⟨by decide +kernel, tk_730, tk_64, by decide, by decide, by decide +kernel⟩
theorem inX7_fits : m_in YX7_fits 7 := ⟨tk_728, tk_729, by decide, rfl⟩
theorem okX7_lookAt : m_ok YX7_lookAt 0 := ⟨by decide +kernel, tk_749, tk_64, by decide, by decide, by decide +kernel⟩
theorem inX7_lookAt : m_in YX7_lookAt 7 := ⟨tk_747, tk_748, by decide, rfl⟩
theorem okX7_write : m_ok YX7_write 2 := ⟨by decide +kernel, tk_759, tk_64, by decide, by decide, by decide +kernel⟩
theorem inX7_write : m_in YX7_write 7 := ⟨tk_757, tk_758, by decide, rfl⟩
theorem okX7_judge : m_ok YX7_judge 0 := ⟨by decide +kernel, tk_767, tk_64, by decide, by decide, by decide +kernel⟩
theorem inX7_judge : m_in YX7_judge 7 := ⟨tk_765, tk_766, by decide, rfl⟩
theorem okX7_tear : m_ok YX7_tear 0 := ⟨by decide +kernel, tk_775, tk_64, by decide, by decide, by decide +kernel⟩
theorem inX7_tear : m_in YX7_tear 7 := ⟨tk_773, tk_774, by decide, rfl⟩
theorem okX7_seed : m_ok YX7_seed 1 := ⟨by decide +kernel, tk_779, tk_64, by decide, by decide, by decide +kernel⟩
theorem inX7_seed : m_in YX7_seed 7 := ⟨tk_777, tk_778, by decide, rfl⟩
theorem okX7_keep : m_ok YX7_keep 1 := ⟨by decide +kernel, tk_783, tk_64, by decide, by decide, by decide +kernel⟩
theorem inX7_keep : m_in YX7_keep 7 := ⟨tk_781, tk_782, by decide, rfl⟩
theorem okX7_goBack : m_ok YX7_goBack 1 := ⟨by decide +kernel, tk_791, tk_64, by decide, by decide, by decide +kernel⟩
theorem inX7_goBack : m_in YX7_goBack 7 := ⟨tk_789, tk_790, by decide, rfl⟩
theorem okX7_isWithin : m_ok YX7_isWithin 3 := ⟨by decide +kernel, tk_398, tk_64, by decide, by decide, by decide +kernel⟩
theorem stX7_isWithin : Cond.static YX7_isWithin.1 ∈ TW := tk_397
theorem okX7_isHeir : m_ok YX7_isHeir 1 := ⟨by decide +kernel, tk_520, tk_64, by decide, by decide, by decide +kernel⟩
theorem stX7_isHeir : Cond.static YX7_isHeir.1 ∈ TW := tk_519
theorem okX7_isValue : m_ok YX7_isValue 1 := ⟨by decide +kernel, tk_588, tk_64, by decide, by decide, by decide +kernel⟩
theorem stX7_isValue : Cond.static YX7_isValue.1 ∈ TW := tk_587
theorem okX7_isImage : m_ok YX7_isImage 1 := ⟨by decide +kernel, tk_786, tk_64, by decide, by decide, by decide +kernel⟩
theorem stX7_isImage : Cond.static YX7_isImage.1 ∈ TW := tk_785
theorem okX7_isThing : m_ok YX7_isThing 1 := ⟨by decide +kernel, tk_534, tk_64, by decide, by decide, by decide +kernel⟩
theorem inX7_isThing : m_in YX7_isThing 7 := ⟨tk_533, tk_13, by decide, rfl⟩
theorem okX8_init : m_ok YX8_init 0 := ⟨by decide +kernel, tk_796, tk_72, by decide, by decide, by decide +kernel⟩
theorem isX8_init : Cond.instanceMethod YX8_init.1 ∈ TW ∧ YX8_init.1.name = "<init>" ∧ YX8_init.2.2.2.1 = none := ⟨tk_795, rfl, rfl⟩
theorem okX8_in : m_ok YX8_in 3 := ⟨by decide +kernel, tk_935, tk_72, by decide, by decide, by decide +kernel⟩
theorem stX8_in : Cond.static YX8_in.1 ∈ TW := tk_934
theorem okX8_feed : m_ok YX8_feed 1 := ⟨by decide +kernel, tk_932, tk_72, by decide, by decide, by decide +kernel⟩
theorem inX8_feed : m_in YX8_feed 8 := ⟨tk_930, tk_931, by decide, rfl⟩
theorem okX8_letterAt : m_ok YX8_letterAt 1 := ⟨by decide +kernel, tk_953, tk_72, by decide, by decide, by decide +kernel⟩
theorem inX8_letterAt : m_in YX8_letterAt 8 := ⟨tk_952, tk_23, by decide, rfl⟩
theorem okX8_nextLetter : m_ok YX8_nextLetter 0 := ⟨by decide +kernel, tk_949, tk_72, by decide, by decide, by decide +kernel⟩
theorem inX8_nextLetter : m_in YX8_nextLetter 8 := ⟨tk_948, tk_22, by decide, rfl⟩
theorem okX8_fails : m_ok YX8_fails 2 := ⟨by decide +kernel, tk_969, tk_72, by decide, by decide, by decide +kernel⟩
theorem inX8_fails : m_in YX8_fails 8 := ⟨tk_968, tk_27, by decide, rfl⟩
theorem okX8_readsNumber : m_ok YX8_readsNumber 2 := ⟨by decide +kernel, tk_965, tk_72, by decide, by decide, by decide +kernel⟩
theorem inX8_readsNumber : m_in YX8_readsNumber 8 := ⟨tk_964, tk_26, by decide, rfl⟩
theorem okX8_readsSign : m_ok YX8_readsSign 1 := ⟨by decide +kernel, tk_973, tk_72, by decide, by decide, by decide +kernel⟩
theorem inX8_readsSign : m_in YX8_readsSign 8 := ⟨tk_972, tk_28, by decide, rfl⟩
theorem okX8_readsHead : m_ok YX8_readsHead 0 := ⟨by decide +kernel, tk_961, tk_72, by decide, by decide, by decide +kernel⟩
theorem inX8_readsHead : m_in YX8_readsHead 8 := ⟨tk_960, tk_25, by decide, rfl⟩
theorem okX8_readsSeasons : m_ok YX8_readsSeasons 0 := ⟨by decide +kernel, tk_981, tk_72, by decide, by decide, by decide +kernel⟩
theorem inX8_readsSeasons : m_in YX8_readsSeasons 8 := ⟨tk_980, tk_30, by decide, rfl⟩
theorem okX8_readsThing : m_ok YX8_readsThing 0 := ⟨by decide +kernel, tk_985, tk_72, by decide, by decide, by decide +kernel⟩
theorem inX8_readsThing : m_in YX8_readsThing 8 := ⟨tk_984, tk_31, by decide, rfl⟩
theorem okX8_readsLand : m_ok YX8_readsLand 0 := ⟨by decide +kernel, tk_989, tk_72, by decide, by decide, by decide +kernel⟩
theorem inX8_readsLand : m_in YX8_readsLand 8 := ⟨tk_988, tk_32, by decide, rfl⟩
theorem okX8_readsWant : m_ok YX8_readsWant 0 := ⟨by decide +kernel, tk_993, tk_72, by decide, by decide, by decide +kernel⟩
theorem inX8_readsWant : m_in YX8_readsWant 8 := ⟨tk_992, tk_33, by decide, rfl⟩
theorem okX8_isAgain : m_ok YX8_isAgain 1 := ⟨by decide +kernel, tk_977, tk_72, by decide, by decide, by decide +kernel⟩
theorem inX8_isAgain : m_in YX8_isAgain 8 := ⟨tk_976, tk_29, by decide, rfl⟩
theorem okX8_readsClause : m_ok YX8_readsClause 0 := ⟨by decide +kernel, tk_957, tk_72, by decide, by decide, by decide +kernel⟩
theorem inX8_readsClause : m_in YX8_readsClause 8 := ⟨tk_956, tk_24, by decide, rfl⟩
theorem okX8_readsCounty : m_ok YX8_readsCounty 0 := ⟨by decide +kernel, tk_945, tk_72, by decide, by decide, by decide +kernel⟩
theorem inX8_readsCounty : m_in YX8_readsCounty 8 := ⟨tk_944, tk_21, by decide, rfl⟩
theorem okX8_county : m_ok YX8_county 0 := ⟨by decide +kernel, tk_941, tk_72, by decide, by decide, by decide +kernel⟩
theorem inX8_county : m_in YX8_county 8 := ⟨tk_939, tk_940, by decide, rfl⟩
theorem okX8_fault : m_ok YX8_fault 0 := ⟨by decide +kernel, tk_997, tk_72, by decide, by decide, by decide +kernel⟩
theorem inX8_fault : m_in YX8_fault 8 := ⟨tk_995, tk_996, by decide, rfl⟩
theorem okX8_isCounty : m_ok YX8_isCounty 0 := ⟨by decide +kernel, tk_1005, tk_72, by decide, by decide, by decide +kernel⟩
theorem inX8_isCounty : m_in YX8_isCounty 8 := ⟨tk_1004, tk_34, by decide, rfl⟩
theorem okX8_isHeir : m_ok YX8_isHeir 1 := ⟨by decide +kernel, tk_1062, tk_72, by decide, by decide, by decide +kernel⟩
theorem stX8_isHeir : Cond.static YX8_isHeir.1 ∈ TW := tk_1061
theorem okX8_isThing : m_ok YX8_isThing 1 := ⟨by decide +kernel, tk_1075, tk_72, by decide, by decide, by decide +kernel⟩
theorem inX8_isThing : m_in YX8_isThing 8 := ⟨tk_1074, tk_47, by decide, rfl⟩
theorem okX8_bounded : m_ok YX8_bounded 3 := ⟨by decide +kernel, tk_1028, tk_72, by decide, by decide, by decide +kernel⟩
theorem stX8_bounded : Cond.static YX8_bounded.1 ∈ TW := tk_1027
theorem okX8_seasonOf : m_ok YX8_seasonOf 1 := ⟨by decide +kernel, tk_1025, tk_72, by decide, by decide, by decide +kernel⟩
theorem inX8_seasonOf : m_in YX8_seasonOf 8 := ⟨tk_1024, tk_39, by decide, rfl⟩
theorem okX8_lightFrom : m_ok YX8_lightFrom 1 := ⟨by decide +kernel, tk_1021, tk_72, by decide, by decide, by decide +kernel⟩
theorem inX8_lightFrom : m_in YX8_lightFrom 8 := ⟨tk_1020, tk_38, by decide, rfl⟩
theorem okX8_lightTo : m_ok YX8_lightTo 1 := ⟨by decide +kernel, tk_1032, tk_72, by decide, by decide, by decide +kernel⟩
theorem inX8_lightTo : m_in YX8_lightTo 8 := ⟨tk_1031, tk_40, by decide, rfl⟩
theorem okX8_holds : m_ok YX8_holds 2 := ⟨by decide +kernel, tk_1017, tk_72, by decide, by decide, by decide +kernel⟩
theorem inX8_holds : m_in YX8_holds 8 := ⟨tk_1016, tk_37, by decide, rfl⟩
theorem okX8_almanac : m_ok YX8_almanac 1 := ⟨by decide +kernel, tk_1013, tk_72, by decide, by decide, by decide +kernel⟩
theorem inX8_almanac : m_in YX8_almanac 8 := ⟨tk_1012, tk_36, by decide, rfl⟩
theorem okX8_heirOf : m_ok YX8_heirOf 1 := ⟨by decide +kernel, tk_1009, tk_72, by decide, by decide, by decide +kernel⟩
theorem inX8_heirOf : m_in YX8_heirOf 8 := ⟨tk_1008, tk_35, by decide, rfl⟩
theorem okX8_comes : m_ok YX8_comes 4 := ⟨by decide +kernel, tk_1113, tk_72, by decide, by decide, by decide +kernel⟩
theorem inX8_comes : m_in YX8_comes 8 := ⟨tk_1112, tk_51, by decide, rfl⟩
theorem okX8_isMet : m_ok YX8_isMet 2 := ⟨by decide +kernel, tk_1040, tk_72, by decide, by decide, by decide +kernel⟩
theorem inX8_isMet : m_in YX8_isMet 8 := ⟨tk_1039, tk_42, by decide, rfl⟩
theorem okX8_capped : m_ok YX8_capped 1 := ⟨by decide +kernel, tk_1108, tk_72, by decide, by decide, by decide +kernel⟩
theorem stX8_capped : Cond.static YX8_capped.1 ∈ TW := tk_1107
theorem okX8_passes : m_ok YX8_passes 1 := ⟨by decide +kernel, tk_1105, tk_72, by decide, by decide, by decide +kernel⟩
theorem inX8_passes : m_in YX8_passes 8 := ⟨tk_1104, tk_50, by decide, rfl⟩
theorem okX8_met : m_ok YX8_met 0 := ⟨by decide +kernel, tk_1036, tk_72, by decide, by decide, by decide +kernel⟩
theorem inX8_met : m_in YX8_met 8 := ⟨tk_1035, tk_41, by decide, rfl⟩
theorem okX8_wrongAbout : m_ok YX8_wrongAbout 1 := ⟨by decide +kernel, tk_1048, tk_72, by decide, by decide, by decide +kernel⟩
theorem inX8_wrongAbout : m_in YX8_wrongAbout 8 := ⟨tk_1047, tk_44, by decide, rfl⟩
theorem okX8_bits : m_ok YX8_bits 1 := ⟨by decide +kernel, tk_1051, tk_72, by decide, by decide, by decide +kernel⟩
theorem stX8_bits : Cond.static YX8_bits.1 ∈ TW := tk_1050
theorem okX8_notes : m_ok YX8_notes 0 := ⟨by decide +kernel, tk_1044, tk_72, by decide, by decide, by decide +kernel⟩
theorem inX8_notes : m_in YX8_notes 8 := ⟨tk_1043, tk_43, by decide, rfl⟩
theorem okX8_envy : m_ok YX8_envy 0 := ⟨by decide +kernel, tk_1055, tk_72, by decide, by decide, by decide +kernel⟩
theorem inX8_envy : m_in YX8_envy 8 := ⟨tk_1054, tk_45, by decide, rfl⟩
theorem okX8_told : m_ok YX8_told 1 := ⟨by decide +kernel, tk_1001, tk_72, by decide, by decide, by decide +kernel⟩
theorem inX8_told : m_in YX8_told 8 := ⟨tk_999, tk_1000, by decide, rfl⟩
theorem okX8_wantsOf : m_ok YX8_wantsOf 1 := ⟨by decide +kernel, tk_1067, tk_72, by decide, by decide, by decide +kernel⟩
theorem inX8_wantsOf : m_in YX8_wantsOf 8 := ⟨tk_1066, tk_46, by decide, rfl⟩
theorem okX8_heir : m_ok YX8_heir 2 := ⟨by decide +kernel, tk_1059, tk_72, by decide, by decide, by decide +kernel⟩
theorem inX8_heir : m_in YX8_heir 8 := ⟨tk_1057, tk_1058, by decide, rfl⟩
theorem okX8_thing : m_ok YX8_thing 2 := ⟨by decide +kernel, tk_1071, tk_72, by decide, by decide, by decide +kernel⟩
theorem inX8_thing : m_in YX8_thing 8 := ⟨tk_1069, tk_1070, by decide, rfl⟩
theorem okX8_want : m_ok YX8_want 2 := ⟨by decide +kernel, tk_1079, tk_72, by decide, by decide, by decide +kernel⟩
theorem inX8_want : m_in YX8_want 8 := ⟨tk_1077, tk_1078, by decide, rfl⟩
theorem okX8_known : m_ok YX8_known 2 := ⟨by decide +kernel, tk_1083, tk_72, by decide, by decide, by decide +kernel⟩
theorem inX8_known : m_in YX8_known 8 := ⟨tk_1081, tk_1082, by decide, rfl⟩
theorem okX8_logged : m_ok YX8_logged 2 := ⟨by decide +kernel, tk_1087, tk_72, by decide, by decide, by decide +kernel⟩
theorem inX8_logged : m_in YX8_logged 8 := ⟨tk_1085, tk_1086, by decide, rfl⟩
theorem okX8_remember : m_ok YX8_remember 0 := ⟨by decide +kernel, tk_1101, tk_72, by decide, by decide, by decide +kernel⟩
theorem inX8_remember : m_in YX8_remember 8 := ⟨tk_1100, tk_49, by decide, rfl⟩
theorem okX8_needHours : m_ok YX8_needHours 1 := ⟨by decide +kernel, tk_1095, tk_72, by decide, by decide, by decide +kernel⟩
theorem inX8_needHours : m_in YX8_needHours 8 := ⟨tk_1094, tk_48, by decide, rfl⟩
theorem okX8_hour : m_ok YX8_hour 1 := ⟨by decide +kernel, tk_1091, tk_72, by decide, by decide, by decide +kernel⟩
theorem inX8_hour : m_in YX8_hour 8 := ⟨tk_1089, tk_1090, by decide, rfl⟩
theorem okX8_sets : m_ok YX8_sets 2 := ⟨by decide +kernel, tk_1124, tk_72, by decide, by decide, by decide +kernel⟩
theorem inX8_sets : m_in YX8_sets 8 := ⟨tk_1123, tk_52, by decide, rfl⟩
theorem okX8_isValue : m_ok YX8_isValue 1 := ⟨by decide +kernel, tk_1120, tk_72, by decide, by decide, by decide +kernel⟩
theorem stX8_isValue : Cond.static YX8_isValue.1 ∈ TW := tk_1119
theorem okX8_put : m_ok YX8_put 2 := ⟨by decide +kernel, tk_1117, tk_72, by decide, by decide, by decide +kernel⟩
theorem inX8_put : m_in YX8_put 8 := ⟨tk_1115, tk_1116, by decide, rfl⟩
theorem okX8_note : m_ok YX8_note 2 := ⟨by decide +kernel, tk_1128, tk_72, by decide, by decide, by decide +kernel⟩
theorem inX8_note : m_in YX8_note 8 := ⟨tk_1126, tk_1127, by decide, rfl⟩
theorem okX8_eclipse : m_ok YX8_eclipse 1 := ⟨by decide +kernel, tk_1132, tk_72, by decide, by decide, by decide +kernel⟩
theorem inX8_eclipse : m_in YX8_eclipse 8 := ⟨tk_1130, tk_1131, by decide, rfl⟩
theorem okX8_draw : m_ok YX8_draw 1 := ⟨by decide +kernel, tk_1140, tk_72, by decide, by decide, by decide +kernel⟩
theorem inX8_draw : m_in YX8_draw 8 := ⟨tk_1139, tk_53, by decide, rfl⟩
theorem okX8_drift : m_ok YX8_drift 1 := ⟨by decide +kernel, tk_1136, tk_72, by decide, by decide, by decide +kernel⟩
theorem inX8_drift : m_in YX8_drift 8 := ⟨tk_1134, tk_1135, by decide, rfl⟩
theorem okX8_undo : m_ok YX8_undo 1 := ⟨by decide +kernel, tk_1148, tk_72, by decide, by decide, by decide +kernel⟩
theorem inX8_undo : m_in YX8_undo 8 := ⟨tk_1146, tk_1147, by decide, rfl⟩
theorem okX8_heirIn : m_ok YX8_heirIn 1 := ⟨by decide +kernel, tk_1156, tk_72, by decide, by decide, by decide +kernel⟩
theorem inX8_heirIn : m_in YX8_heirIn 8 := ⟨tk_1155, tk_54, by decide, rfl⟩
theorem okX8_whose : m_ok YX8_whose 1 := ⟨by decide +kernel, tk_1152, tk_72, by decide, by decide, by decide +kernel⟩
theorem inX8_whose : m_in YX8_whose 8 := ⟨tk_1150, tk_1151, by decide, rfl⟩
theorem okX8_gets : m_ok YX8_gets 2 := ⟨by decide +kernel, tk_1160, tk_72, by decide, by decide, by decide +kernel⟩
theorem inX8_gets : m_in YX8_gets 8 := ⟨tk_1158, tk_1159, by decide, rfl⟩
theorem okX8_comesTo : m_ok YX8_comesTo 4 := ⟨by decide +kernel, tk_1168, tk_72, by decide, by decide, by decide +kernel⟩
theorem inX8_comesTo : m_in YX8_comesTo 8 := ⟨tk_1167, tk_55, by decide, rfl⟩
theorem okX8_willBe : m_ok YX8_willBe 2 := ⟨by decide +kernel, tk_1164, tk_72, by decide, by decide, by decide +kernel⟩
theorem inX8_willBe : m_in YX8_willBe 8 := ⟨tk_1162, tk_1163, by decide, rfl⟩
theorem okX8_next : m_ok YX8_next 1 := ⟨by decide +kernel, tk_1172, tk_72, by decide, by decide, by decide +kernel⟩
theorem inX8_next : m_in YX8_next 8 := ⟨tk_1170, tk_1171, by decide, rfl⟩
theorem okX8_leastFor : m_ok YX8_leastFor 4 := ⟨by decide +kernel, tk_1180, tk_72, by decide, by decide, by decide +kernel⟩
theorem inX8_leastFor : m_in YX8_leastFor 8 := ⟨tk_1179, tk_56, by decide, rfl⟩
theorem okX8_keepSo : m_ok YX8_keepSo 5 := ⟨by decide +kernel, tk_1176, tk_72, by decide, by decide, by decide +kernel⟩
theorem inX8_keepSo : m_in YX8_keepSo 8 := ⟨tk_1174, tk_1175, by decide, rfl⟩
theorem okX8_wanted : m_ok YX8_wanted 2 := ⟨by decide +kernel, tk_1192, tk_72, by decide, by decide, by decide +kernel⟩
theorem inX8_wanted : m_in YX8_wanted 8 := ⟨tk_1191, tk_58, by decide, rfl⟩
theorem okX8_mostWanted : m_ok YX8_mostWanted 1 := ⟨by decide +kernel, tk_1188, tk_72, by decide, by decide, by decide +kernel⟩
theorem inX8_mostWanted : m_in YX8_mostWanted 8 := ⟨tk_1187, tk_57, by decide, rfl⟩
theorem okX8_agreed : m_ok YX8_agreed 1 := ⟨by decide +kernel, tk_1184, tk_72, by decide, by decide, by decide +kernel⟩
theorem inX8_agreed : m_in YX8_agreed 8 := ⟨tk_1182, tk_1183, by decide, rfl⟩
theorem okX8_against : m_ok YX8_against 2 := ⟨by decide +kernel, tk_1196, tk_72, by decide, by decide, by decide +kernel⟩
theorem inX8_against : m_in YX8_against 8 := ⟨tk_1194, tk_1195, by decide, rfl⟩
theorem okX8_movers : m_ok YX8_movers 3 := ⟨by decide +kernel, tk_1200, tk_72, by decide, by decide, by decide +kernel⟩
theorem inX8_movers : m_in YX8_movers 8 := ⟨tk_1198, tk_1199, by decide, rfl⟩
theorem okX8_needWhat : m_ok YX8_needWhat 1 := ⟨by decide +kernel, tk_1208, tk_72, by decide, by decide, by decide +kernel⟩
theorem inX8_needWhat : m_in YX8_needWhat 8 := ⟨tk_1207, tk_59, by decide, rfl⟩
theorem okX8_poorest : m_ok YX8_poorest 1 := ⟨by decide +kernel, tk_1204, tk_72, by decide, by decide, by decide +kernel⟩
theorem inX8_poorest : m_in YX8_poorest 8 := ⟨tk_1202, tk_1203, by decide, rfl⟩
theorem okX8_light : m_ok YX8_light 1 := ⟨by decide +kernel, tk_1212, tk_72, by decide, by decide, by decide +kernel⟩
theorem inX8_light : m_in YX8_light 8 := ⟨tk_1210, tk_1211, by decide, rfl⟩
theorem okX8_child : m_ok YX8_child 2 := ⟨by decide +kernel, tk_1216, tk_72, by decide, by decide, by decide +kernel⟩
theorem inX8_child : m_in YX8_child 8 := ⟨tk_1214, tk_1215, by decide, rfl⟩
theorem okX8_clear : m_ok YX8_clear 2 := ⟨by decide +kernel, tk_1220, tk_72, by decide, by decide, by decide +kernel⟩
theorem inX8_clear : m_in YX8_clear 8 := ⟨tk_1218, tk_1219, by decide, rfl⟩
theorem okX8_find : m_ok YX8_find 3 := ⟨by decide +kernel, tk_1226, tk_72, by decide, by decide, by decide +kernel⟩
theorem inX8_find : m_in YX8_find 8 := ⟨tk_1224, tk_1225, by decide, rfl⟩
theorem okX8_valueBy : m_ok YX8_valueBy 2 := ⟨by decide +kernel, tk_1238, tk_72, by decide, by decide, by decide +kernel⟩
theorem inX8_valueBy : m_in YX8_valueBy 8 := ⟨tk_1237, tk_61, by decide, rfl⟩
theorem okX8_isFit : m_ok YX8_isFit 1 := ⟨by decide +kernel, tk_1234, tk_72, by decide, by decide, by decide +kernel⟩
theorem inX8_isFit : m_in YX8_isFit 8 := ⟨tk_1233, tk_60, by decide, rfl⟩
theorem okX8_fits : m_ok YX8_fits 1 := ⟨by decide +kernel, tk_1230, tk_72, by decide, by decide, by decide +kernel⟩
theorem inX8_fits : m_in YX8_fits 8 := ⟨tk_1228, tk_1229, by decide, rfl⟩
theorem okX8_alike : m_ok YX8_alike 1 := ⟨by decide +kernel, tk_1247, tk_72, by decide, by decide, by decide +kernel⟩
theorem inX8_alike : m_in YX8_alike 8 := ⟨tk_1246, tk_62, by decide, rfl⟩
theorem okX8_lookAt : m_ok YX8_lookAt 0 := ⟨by decide +kernel, tk_1242, tk_72, by decide, by decide, by decide +kernel⟩
theorem inX8_lookAt : m_in YX8_lookAt 8 := ⟨tk_1240, tk_1241, by decide, rfl⟩
theorem okX8_write : m_ok YX8_write 2 := ⟨by decide +kernel, tk_1251, tk_72, by decide, by decide, by decide +kernel⟩
theorem inX8_write : m_in YX8_write 8 := ⟨tk_1249, tk_1250, by decide, rfl⟩
theorem okX8_judge : m_ok YX8_judge 0 := ⟨by decide +kernel, tk_1255, tk_72, by decide, by decide, by decide +kernel⟩
theorem inX8_judge : m_in YX8_judge 8 := ⟨tk_1253, tk_1254, by decide, rfl⟩
theorem okX8_tear : m_ok YX8_tear 0 := ⟨by decide +kernel, tk_1259, tk_72, by decide, by decide, by decide +kernel⟩
theorem inX8_tear : m_in YX8_tear 8 := ⟨tk_1257, tk_1258, by decide, rfl⟩
theorem okX8_seed : m_ok YX8_seed 1 := ⟨by decide +kernel, tk_1263, tk_72, by decide, by decide, by decide +kernel⟩
theorem inX8_seed : m_in YX8_seed 8 := ⟨tk_1261, tk_1262, by decide, rfl⟩
theorem okX8_keep : m_ok YX8_keep 1 := ⟨by decide +kernel, tk_1267, tk_72, by decide, by decide, by decide +kernel⟩
theorem inX8_keep : m_in YX8_keep 8 := ⟨tk_1265, tk_1266, by decide, rfl⟩
theorem okX8_goBack : m_ok YX8_goBack 1 := ⟨by decide +kernel, tk_1271, tk_72, by decide, by decide, by decide +kernel⟩
theorem inX8_goBack : m_in YX8_goBack 8 := ⟨tk_1269, tk_1270, by decide, rfl⟩
theorem okJ6_bitCount_0f7a4 : m_ok YJ6_bitCount_0f7a4 1 := ⟨by decide +kernel, tk_504, tk_74, by decide, by decide, by decide +kernel⟩
theorem stJ6_bitCount_0f7a4 : Cond.static YJ6_bitCount_0f7a4.1 ∈ TW := tk_503
