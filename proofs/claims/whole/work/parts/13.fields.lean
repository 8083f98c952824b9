/-! ===== fields and classes (printed by wip/whole/gen/emit.py) ===== -/
theorem vc_0 : vwCl[0]? = some (RX0, TX0, 10) := rfl
theorem pl_X0 : plainName RX0 = true := by decide +kernel
theorem fX0_0 : FF 0 10 0 "WaveRight$Advice" "heat" "LWaveRight$Heat;" true := ⟨TX0, rfl, inX0, le45 rfl, rfl, tyX0_ok, nmX0, le45 rfl⟩
theorem fX0_1 : FF 0 10 1 "WaveRight$Advice" "standing" "LWaveRight$Standing;" true := ⟨TX0, rfl, inX0, le45 rfl, rfl, tyX0_ok, nmX0, le45 rfl⟩
theorem fX0_2 : FF 0 10 2 "WaveRight$Advice" "length" "I" false := ⟨TX0, rfl, inX0, le45 rfl, rfl, tyX0_ok, nmX0, le45 rfl⟩
theorem fX0_3 : FF 0 10 3 "WaveRight$Advice" "way" "I" false := ⟨TX0, rfl, inX0, le45 rfl, rfl, tyX0_ok, nmX0, le45 rfl⟩
theorem fX0_4 : FF 0 10 4 "WaveRight$Advice" "score" "I" false := ⟨TX0, rfl, inX0, le45 rfl, rfl, tyX0_ok, nmX0, le45 rfl⟩
theorem fX0_5 : FF 0 10 5 "WaveRight$Advice" "total" "I" false := ⟨TX0, rfl, inX0, le45 rfl, rfl, tyX0_ok, nmX0, le45 rfl⟩
theorem fX0_6 : FF 0 10 6 "WaveRight$Advice" "firstWave" "I" false := ⟨TX0, rfl, inX0, le45 rfl, rfl, tyX0_ok, nmX0, le45 rfl⟩
theorem fX0_7 : FF 0 10 7 "WaveRight$Advice" "secondWave" "I" false := ⟨TX0, rfl, inX0, le45 rfl, rfl, tyX0_ok, nmX0, le45 rfl⟩
theorem fX0_8 : FF 0 10 8 "WaveRight$Advice" "scores" "[I" true := ⟨TX0, rfl, inX0, le45 rfl, rfl, tyX0_ok, nmX0, le45 rfl⟩
theorem fX0_9 : FF 0 10 9 "WaveRight$Advice" "backs" "[I" true := ⟨TX0, rfl, inX0, le45 rfl, rfl, tyX0_ok, nmX0, le45 rfl⟩
theorem vc_1 : vwCl[1]? = some (RX1, TX1, 16) := rfl
theorem pl_X1 : plainName RX1 = true := by decide +kernel
theorem fX1_0 : FF 1 16 0 "WaveRight$Heat" "sea" "LWaveRight$Sea;" false := ⟨TX1, rfl, inX1, le45 rfl, rfl, tyX1_ok, nmX1, le45 rfl⟩
theorem fX1_1 : FF 1 16 1 "WaveRight$Heat" "judge" "LWaveRight$Judge;" false := ⟨TX1, rfl, inX1, le45 rfl, rfl, tyX1_ok, nmX1, le45 rfl⟩
theorem fX1_2 : FF 1 16 2 "WaveRight$Heat" "swimmers" "[LWaveRight$Swimmer;" true := ⟨TX1, rfl, inX1, le45 rfl, rfl, tyX1_ok, nmX1, le45 rfl⟩
theorem fX1_3 : FF 1 16 3 "WaveRight$Heat" "line" "LWaveRight$Row;" true := ⟨TX1, rfl, inX1, le45 rfl, rfl, tyX1_ok, nmX1, le45 rfl⟩
theorem fX1_4 : FF 1 16 4 "WaveRight$Heat" "gone" "[I" true := ⟨TX1, rfl, inX1, le45 rfl, rfl, tyX1_ok, nmX1, le45 rfl⟩
theorem fX1_5 : FF 1 16 5 "WaveRight$Heat" "latest" "[I" true := ⟨TX1, rfl, inX1, le45 rfl, rfl, tyX1_ok, nmX1, le45 rfl⟩
theorem fX1_6 : FF 1 16 6 "WaveRight$Heat" "seenCount" "I" false := ⟨TX1, rfl, inX1, le45 rfl, rfl, tyX1_ok, nmX1, le45 rfl⟩
theorem fX1_7 : FF 1 16 7 "WaveRight$Heat" "judged" "I" false := ⟨TX1, rfl, inX1, le45 rfl, rfl, tyX1_ok, nmX1, le45 rfl⟩
theorem fX1_8 : FF 1 16 8 "WaveRight$Heat" "unjudged" "I" false := ⟨TX1, rfl, inX1, le45 rfl, rfl, tyX1_ok, nmX1, le45 rfl⟩
theorem fX1_9 : FF 1 16 9 "WaveRight$Heat" "minute" "I" false := ⟨TX1, rfl, inX1, le45 rfl, rfl, tyX1_ok, nmX1, le45 rfl⟩
theorem fX1_10 : FF 1 16 10 "WaveRight$Heat" "start" "I" false := ⟨TX1, rfl, inX1, le45 rfl, rfl, tyX1_ok, nmX1, le45 rfl⟩
theorem fX1_11 : FF 1 16 11 "WaveRight$Heat" "restarts" "I" false := ⟨TX1, rfl, inX1, le45 rfl, rfl, tyX1_ok, nmX1, le45 rfl⟩
theorem fX1_12 : FF 1 16 12 "WaveRight$Heat" "next" "I" false := ⟨TX1, rfl, inX1, le45 rfl, rfl, tyX1_ok, nmX1, le45 rfl⟩
theorem fX1_13 : FF 1 16 13 "WaveRight$Heat" "there" "I" false := ⟨TX1, rfl, inX1, le45 rfl, rfl, tyX1_ok, nmX1, le45 rfl⟩
theorem fX1_14 : FF 1 16 14 "WaveRight$Heat" "over" "Z" false := ⟨TX1, rfl, inX1, le45 rfl, rfl, tyX1_ok, nmX1, le45 rfl⟩
theorem fX1_15 : FF 1 16 15 "WaveRight$Heat" "anyTaken" "Z" false := ⟨TX1, rfl, inX1, le45 rfl, rfl, tyX1_ok, nmX1, le45 rfl⟩
theorem vc_2 : vwCl[2]? = some (RX2, TX2, 12) := rfl
theorem pl_X2 : plainName RX2 = true := by decide +kernel
theorem fX2_0 : FF 2 12 0 "WaveRight$Judge" "kinds" "[I" true := ⟨TX2, rfl, inX2, le45 rfl, rfl, tyX2_ok, nmX2, le45 rfl⟩
theorem fX2_1 : FF 2 12 1 "WaveRight$Judge" "values" "[I" true := ⟨TX2, rfl, inX2, le45 rfl, rfl, tyX2_ok, nmX2, le45 rfl⟩
theorem fX2_2 : FF 2 12 2 "WaveRight$Judge" "steps" "I" false := ⟨TX2, rfl, inX2, le45 rfl, rfl, tyX2_ok, nmX2, le45 rfl⟩
theorem fX2_3 : FF 2 12 3 "WaveRight$Judge" "adds" "[Z" true := ⟨TX2, rfl, inX2, le45 rfl, rfl, tyX2_ok, nmX2, le45 rfl⟩
theorem fX2_4 : FF 2 12 4 "WaveRight$Judge" "lineBegins" "[I" true := ⟨TX2, rfl, inX2, le45 rfl, rfl, tyX2_ok, nmX2, le45 rfl⟩
theorem fX2_5 : FF 2 12 5 "WaveRight$Judge" "sumEnds" "[I" true := ⟨TX2, rfl, inX2, le45 rfl, rfl, tyX2_ok, nmX2, le45 rfl⟩
theorem fX2_6 : FF 2 12 6 "WaveRight$Judge" "lines" "I" false := ⟨TX2, rfl, inX2, le45 rfl, rfl, tyX2_ok, nmX2, le45 rfl⟩
theorem fX2_7 : FF 2 12 7 "WaveRight$Judge" "facts" "[I" true := ⟨TX2, rfl, inX2, le45 rfl, rfl, tyX2_ok, nmX2, le45 rfl⟩
theorem fX2_8 : FF 2 12 8 "WaveRight$Judge" "stack" "[I" true := ⟨TX2, rfl, inX2, le45 rfl, rfl, tyX2_ok, nmX2, le45 rfl⟩
theorem fX2_9 : FF 2 12 9 "WaveRight$Judge" "height" "I" false := ⟨TX2, rfl, inX2, le45 rfl, rfl, tyX2_ok, nmX2, le45 rfl⟩
theorem fX2_10 : FF 2 12 10 "WaveRight$Judge" "flag" "Z" false := ⟨TX2, rfl, inX2, le45 rfl, rfl, tyX2_ok, nmX2, le45 rfl⟩
theorem fX2_11 : FF 2 12 11 "WaveRight$Judge" "trouble" "I" false := ⟨TX2, rfl, inX2, le45 rfl, rfl, tyX2_ok, nmX2, le45 rfl⟩
theorem vc_3 : vwCl[3]? = some (RX3, TX3, 2) := rfl
theorem pl_X3 : plainName RX3 = true := by decide +kernel
theorem fX3_0 : FF 3 2 0 "WaveRight$JudgeReader" "text" "LWaveRight$Text;" true := ⟨TX3, rfl, inX3, le45 rfl, rfl, tyX3_ok, nmX3, le45 rfl⟩
theorem fX3_1 : FF 3 2 1 "WaveRight$JudgeReader" "judge" "LWaveRight$Judge;" false := ⟨TX3, rfl, inX3, le45 rfl, rfl, tyX3_ok, nmX3, le45 rfl⟩
theorem vc_4 : vwCl[4]? = some (RX4, TX4, 5) := rfl
theorem pl_X4 : plainName RX4 = true := by decide +kernel
theorem fX4_0 : FF 4 5 0 "WaveRight$Looking" "heat" "LWaveRight$Heat;" true := ⟨TX4, rfl, inX4, le45 rfl, rfl, tyX4_ok, nmX4, le45 rfl⟩
theorem fX4_1 : FF 4 5 1 "WaveRight$Looking" "pool" "[I" true := ⟨TX4, rfl, inX4, le45 rfl, rfl, tyX4_ok, nmX4, le45 rfl⟩
theorem fX4_2 : FF 4 5 2 "WaveRight$Looking" "many" "I" false := ⟨TX4, rfl, inX4, le45 rfl, rfl, tyX4_ok, nmX4, le45 rfl⟩
theorem fX4_3 : FF 4 5 3 "WaveRight$Looking" "seenAt" "[I" true := ⟨TX4, rfl, inX4, le45 rfl, rfl, tyX4_ok, nmX4, le45 rfl⟩
theorem fX4_4 : FF 4 5 4 "WaveRight$Looking" "table" "[J" true := ⟨TX4, rfl, inX4, le45 rfl, rfl, tyX4_ok, nmX4, le45 rfl⟩
theorem vc_5 : vwCl[5]? = some (RX5, TX5, 3) := rfl
theorem pl_X5 : plainName RX5 = true := by decide +kernel
theorem fX5_0 : FF 5 3 0 "WaveRight$Row" "numbers" "[I" true := ⟨TX5, rfl, inX5, le45 rfl, rfl, tyX5_ok, nmX5, le45 rfl⟩
theorem fX5_1 : FF 5 3 1 "WaveRight$Row" "many" "I" false := ⟨TX5, rfl, inX5, le45 rfl, rfl, tyX5_ok, nmX5, le45 rfl⟩
theorem fX5_2 : FF 5 3 2 "WaveRight$Row" "told" "Z" false := ⟨TX5, rfl, inX5, le45 rfl, rfl, tyX5_ok, nmX5, le45 rfl⟩
theorem vc_6 : vwCl[6]? = some (RX6, TX6, 9) := rfl
theorem pl_X6 : plainName RX6 = true := by decide +kernel
theorem fX6_0 : FF 6 9 0 "WaveRight$Sea" "letters" "[I" true := ⟨TX6, rfl, inX6, le45 rfl, rfl, tyX6_ok, nmX6, le45 rfl⟩
theorem fX6_1 : FF 6 9 1 "WaveRight$Sea" "letterCounts" "[I" true := ⟨TX6, rfl, inX6, le45 rfl, rfl, tyX6_ok, nmX6, le45 rfl⟩
theorem fX6_2 : FF 6 9 2 "WaveRight$Sea" "places" "[I" true := ⟨TX6, rfl, inX6, le45 rfl, rfl, tyX6_ok, nmX6, le45 rfl⟩
theorem fX6_3 : FF 6 9 3 "WaveRight$Sea" "speeds" "[I" true := ⟨TX6, rfl, inX6, le45 rfl, rfl, tyX6_ok, nmX6, le45 rfl⟩
theorem fX6_4 : FF 6 9 4 "WaveRight$Sea" "facts" "[I" true := ⟨TX6, rfl, inX6, le45 rfl, rfl, tyX6_ok, nmX6, le45 rfl⟩
theorem fX6_5 : FF 6 9 5 "WaveRight$Sea" "surfers" "I" false := ⟨TX6, rfl, inX6, le45 rfl, rfl, tyX6_ok, nmX6, le45 rfl⟩
theorem fX6_6 : FF 6 9 6 "WaveRight$Sea" "waves" "I" false := ⟨TX6, rfl, inX6, le45 rfl, rfl, tyX6_ok, nmX6, le45 rfl⟩
theorem fX6_7 : FF 6 9 7 "WaveRight$Sea" "minutes" "I" false := ⟨TX6, rfl, inX6, le45 rfl, rfl, tyX6_ok, nmX6, le45 rfl⟩
theorem fX6_8 : FF 6 9 8 "WaveRight$Sea" "again" "I" false := ⟨TX6, rfl, inX6, le45 rfl, rfl, tyX6_ok, nmX6, le45 rfl⟩
theorem vc_7 : vwCl[7]? = some (RX7, TX7, 4) := rfl
theorem pl_X7 : plainName RX7 = true := by decide +kernel
theorem fX7_0 : FF 7 4 0 "WaveRight$SeaReader" "text" "LWaveRight$Text;" true := ⟨TX7, rfl, inX7, le45 rfl, rfl, tyX7_ok, nmX7, le45 rfl⟩
theorem fX7_1 : FF 7 4 1 "WaveRight$SeaReader" "sea" "LWaveRight$Sea;" false := ⟨TX7, rfl, inX7, le45 rfl, rfl, tyX7_ok, nmX7, le45 rfl⟩
theorem fX7_2 : FF 7 4 2 "WaveRight$SeaReader" "minutesTold" "Z" false := ⟨TX7, rfl, inX7, le45 rfl, rfl, tyX7_ok, nmX7, le45 rfl⟩
theorem fX7_3 : FF 7 4 3 "WaveRight$SeaReader" "againTold" "Z" false := ⟨TX7, rfl, inX7, le45 rfl, rfl, tyX7_ok, nmX7, le45 rfl⟩
theorem vc_8 : vwCl[8]? = some (RX8, TX8, 1) := rfl
theorem pl_X8 : plainName RX8 = true := by decide +kernel
theorem fX8_0 : FF 8 1 0 "WaveRight$Standing" "heat" "LWaveRight$Heat;" true := ⟨TX8, rfl, inX8, le45 rfl, rfl, tyX8_ok, nmX8, le45 rfl⟩
theorem vc_9 : vwCl[9]? = some (RX9, TX9, 15) := rfl
theorem pl_X9 : plainName RX9 = true := by decide +kernel
theorem fX9_0 : FF 9 15 0 "WaveRight$Swimmer" "number" "I" true := ⟨TX9, rfl, inX9, le45 rfl, rfl, tyX9_ok, nmX9, le45 rfl⟩
theorem fX9_1 : FF 9 15 1 "WaveRight$Swimmer" "rides" "[I" true := ⟨TX9, rfl, inX9, le45 rfl, rfl, tyX9_ok, nmX9, le45 rfl⟩
theorem fX9_2 : FF 9 15 2 "WaveRight$Swimmer" "rideCount" "I" false := ⟨TX9, rfl, inX9, le45 rfl, rfl, tyX9_ok, nmX9, le45 rfl⟩
theorem fX9_3 : FF 9 15 3 "WaveRight$Swimmer" "place" "I" false := ⟨TX9, rfl, inX9, le45 rfl, rfl, tyX9_ok, nmX9, le45 rfl⟩
theorem fX9_4 : FF 9 15 4 "WaveRight$Swimmer" "aim" "I" false := ⟨TX9, rfl, inX9, le45 rfl, rfl, tyX9_ok, nmX9, le45 rfl⟩
theorem fX9_5 : FF 9 15 5 "WaveRight$Swimmer" "swims" "I" false := ⟨TX9, rfl, inX9, le45 rfl, rfl, tyX9_ok, nmX9, le45 rfl⟩
theorem fX9_6 : FF 9 15 6 "WaveRight$Swimmer" "out" "Z" false := ⟨TX9, rfl, inX9, le45 rfl, rfl, tyX9_ok, nmX9, le45 rfl⟩
theorem fX9_7 : FF 9 15 7 "WaveRight$Swimmer" "onWave" "Z" false := ⟨TX9, rfl, inX9, le45 rfl, rfl, tyX9_ok, nmX9, le45 rfl⟩
theorem fX9_8 : FF 9 15 8 "WaveRight$Swimmer" "back" "I" false := ⟨TX9, rfl, inX9, le45 rfl, rfl, tyX9_ok, nmX9, le45 rfl⟩
theorem fX9_9 : FF 9 15 9 "WaveRight$Swimmer" "hinderings" "I" false := ⟨TX9, rfl, inX9, le45 rfl, rfl, tyX9_ok, nmX9, le45 rfl⟩
theorem fX9_10 : FF 9 15 10 "WaveRight$Swimmer" "first" "I" false := ⟨TX9, rfl, inX9, le45 rfl, rfl, tyX9_ok, nmX9, le45 rfl⟩
theorem fX9_11 : FF 9 15 11 "WaveRight$Swimmer" "second" "I" false := ⟨TX9, rfl, inX9, le45 rfl, rfl, tyX9_ok, nmX9, le45 rfl⟩
theorem fX9_12 : FF 9 15 12 "WaveRight$Swimmer" "way" "I" false := ⟨TX9, rfl, inX9, le45 rfl, rfl, tyX9_ok, nmX9, le45 rfl⟩
theorem fX9_13 : FF 9 15 13 "WaveRight$Swimmer" "length" "I" false := ⟨TX9, rfl, inX9, le45 rfl, rfl, tyX9_ok, nmX9, le45 rfl⟩
theorem fX9_14 : FF 9 15 14 "WaveRight$Swimmer" "turns" "I" false := ⟨TX9, rfl, inX9, le45 rfl, rfl, tyX9_ok, nmX9, le45 rfl⟩
theorem vc_10 : vwCl[10]? = some (RX10, TX10, 6) := rfl
theorem pl_X10 : plainName RX10 = true := by decide +kernel
theorem fX10_0 : FF 10 6 0 "WaveRight$Text" "bytes" "[I" true := ⟨TX10, rfl, inX10, le45 rfl, rfl, tyX10_ok, nmX10, le45 rfl⟩
theorem fX10_1 : FF 10 6 1 "WaveRight$Text" "length" "I" false := ⟨TX10, rfl, inX10, le45 rfl, rfl, tyX10_ok, nmX10, le45 rfl⟩
theorem fX10_2 : FF 10 6 2 "WaveRight$Text" "kind" "I" false := ⟨TX10, rfl, inX10, le45 rfl, rfl, tyX10_ok, nmX10, le45 rfl⟩
theorem fX10_3 : FF 10 6 3 "WaveRight$Text" "begins" "I" false := ⟨TX10, rfl, inX10, le45 rfl, rfl, tyX10_ok, nmX10, le45 rfl⟩
theorem fX10_4 : FF 10 6 4 "WaveRight$Text" "ends" "I" false := ⟨TX10, rfl, inX10, le45 rfl, rfl, tyX10_ok, nmX10, le45 rfl⟩
theorem fX10_5 : FF 10 6 5 "WaveRight$Text" "number" "I" false := ⟨TX10, rfl, inX10, le45 rfl, rfl, tyX10_ok, nmX10, le45 rfl⟩
theorem vc_11 : vwCl[11]? = some (RX11, TX11, 10) := rfl
theorem pl_X11 : plainName RX11 = true := by decide +kernel
theorem fX11_0 : FF 11 10 0 "WaveRight" "spareSea" "LWaveRight$Sea;" false := ⟨TX11, rfl, inX11, le45 rfl, rfl, tyX11_ok, nmX11, le45 rfl⟩
theorem fX11_1 : FF 11 10 1 "WaveRight" "spareJudge" "LWaveRight$Judge;" false := ⟨TX11, rfl, inX11, le45 rfl, rfl, tyX11_ok, nmX11, le45 rfl⟩
theorem fX11_2 : FF 11 10 2 "WaveRight" "tape" "LWaveRight$Text;" true := ⟨TX11, rfl, inX11, le45 rfl, rfl, tyX11_ok, nmX11, le45 rfl⟩
theorem fX11_3 : FF 11 10 3 "WaveRight" "seaReader" "LWaveRight$SeaReader;" true := ⟨TX11, rfl, inX11, le45 rfl, rfl, tyX11_ok, nmX11, le45 rfl⟩
theorem fX11_4 : FF 11 10 4 "WaveRight" "judgeReader" "LWaveRight$JudgeReader;" true := ⟨TX11, rfl, inX11, le45 rfl, rfl, tyX11_ok, nmX11, le45 rfl⟩
theorem fX11_5 : FF 11 10 5 "WaveRight" "faultAt" "I" false := ⟨TX11, rfl, inX11, le45 rfl, rfl, tyX11_ok, nmX11, le45 rfl⟩
theorem fX11_6 : FF 11 10 6 "WaveRight" "heat" "LWaveRight$Heat;" true := ⟨TX11, rfl, inX11, le45 rfl, rfl, tyX11_ok, nmX11, le45 rfl⟩
theorem fX11_7 : FF 11 10 7 "WaveRight" "standing" "LWaveRight$Standing;" true := ⟨TX11, rfl, inX11, le45 rfl, rfl, tyX11_ok, nmX11, le45 rfl⟩
theorem fX11_8 : FF 11 10 8 "WaveRight" "advice" "LWaveRight$Advice;" true := ⟨TX11, rfl, inX11, le45 rfl, rfl, tyX11_ok, nmX11, le45 rfl⟩
theorem fX11_9 : FF 11 10 9 "WaveRight" "looking" "LWaveRight$Looking;" true := ⟨TX11, rfl, inX11, le45 rfl, rfl, tyX11_ok, nmX11, le45 rfl⟩
theorem vc_12 : vwCl[12]? = some (RX12, TX12, 54) := rfl
theorem pl_X12 : plainName RX12 = true := by decide +kernel
theorem fX12_0 : FF 12 54 0 "WaveRightModel" "thrown" "I" false := ⟨TX12, rfl, inX12, le45 rfl, rfl, tyX12_ok, nmX12, le45 rfl⟩
theorem fX12_1 : FF 12 54 1 "WaveRightModel" "tape" "[B" true := ⟨TX12, rfl, inX12, le45 rfl, rfl, tyX12_ok, nmX12, le45 rfl⟩
theorem fX12_2 : FF 12 54 2 "WaveRightModel" "taped" "I" false := ⟨TX12, rfl, inX12, le45 rfl, rfl, tyX12_ok, nmX12, le45 rfl⟩
theorem fX12_3 : FF 12 54 3 "WaveRightModel" "five" "[I" true := ⟨TX12, rfl, inX12, le45 rfl, rfl, tyX12_ok, nmX12, le45 rfl⟩
theorem fX12_4 : FF 12 54 4 "WaveRightModel" "point" "I" false := ⟨TX12, rfl, inX12, le45 rfl, rfl, tyX12_ok, nmX12, le45 rfl⟩
theorem fX12_5 : FF 12 54 5 "WaveRightModel" "begin" "I" false := ⟨TX12, rfl, inX12, le45 rfl, rfl, tyX12_ok, nmX12, le45 rfl⟩
theorem fX12_6 : FF 12 54 6 "WaveRightModel" "size" "I" false := ⟨TX12, rfl, inX12, le45 rfl, rfl, tyX12_ok, nmX12, le45 rfl⟩
theorem fX12_7 : FF 12 54 7 "WaveRightModel" "faultAt" "I" false := ⟨TX12, rfl, inX12, le45 rfl, rfl, tyX12_ok, nmX12, le45 rfl⟩
theorem fX12_8 : FF 12 54 8 "WaveRightModel" "fault" "I" false := ⟨TX12, rfl, inX12, le45 rfl, rfl, tyX12_ok, nmX12, le45 rfl⟩
theorem fX12_9 : FF 12 54 9 "WaveRightModel" "sea" "[I" true := ⟨TX12, rfl, inX12, le45 rfl, rfl, tyX12_ok, nmX12, le45 rfl⟩
theorem fX12_10 : FF 12 54 10 "WaveRightModel" "draft" "[I" true := ⟨TX12, rfl, inX12, le45 rfl, rfl, tyX12_ok, nmX12, le45 rfl⟩
theorem fX12_11 : FF 12 54 11 "WaveRightModel" "hasSea" "Z" false := ⟨TX12, rfl, inX12, le45 rfl, rfl, tyX12_ok, nmX12, le45 rfl⟩
theorem fX12_12 : FF 12 54 12 "WaveRightModel" "hasHeat" "Z" false := ⟨TX12, rfl, inX12, le45 rfl, rfl, tyX12_ok, nmX12, le45 rfl⟩
theorem fX12_13 : FF 12 54 13 "WaveRightModel" "hasAgain" "Z" false := ⟨TX12, rfl, inX12, le45 rfl, rfl, tyX12_ok, nmX12, le45 rfl⟩
theorem fX12_14 : FF 12 54 14 "WaveRightModel" "code" "[I" true := ⟨TX12, rfl, inX12, le45 rfl, rfl, tyX12_ok, nmX12, le45 rfl⟩
theorem fX12_15 : FF 12 54 15 "WaveRightModel" "draftCode" "[I" true := ⟨TX12, rfl, inX12, le45 rfl, rfl, tyX12_ok, nmX12, le45 rfl⟩
theorem fX12_16 : FF 12 54 16 "WaveRightModel" "lineAt" "[I" true := ⟨TX12, rfl, inX12, le45 rfl, rfl, tyX12_ok, nmX12, le45 rfl⟩
theorem fX12_17 : FF 12 54 17 "WaveRightModel" "draftLine" "[I" true := ⟨TX12, rfl, inX12, le45 rfl, rfl, tyX12_ok, nmX12, le45 rfl⟩
theorem fX12_18 : FF 12 54 18 "WaveRightModel" "lineMany" "I" false := ⟨TX12, rfl, inX12, le45 rfl, rfl, tyX12_ok, nmX12, le45 rfl⟩
theorem fX12_19 : FF 12 54 19 "WaveRightModel" "draftLines" "I" false := ⟨TX12, rfl, inX12, le45 rfl, rfl, tyX12_ok, nmX12, le45 rfl⟩
theorem fX12_20 : FF 12 54 20 "WaveRightModel" "coded" "I" false := ⟨TX12, rfl, inX12, le45 rfl, rfl, tyX12_ok, nmX12, le45 rfl⟩
theorem fX12_21 : FF 12 54 21 "WaveRightModel" "deep" "I" false := ⟨TX12, rfl, inX12, le45 rfl, rfl, tyX12_ok, nmX12, le45 rfl⟩
theorem fX12_22 : FF 12 54 22 "WaveRightModel" "facts" "[I" true := ⟨TX12, rfl, inX12, le45 rfl, rfl, tyX12_ok, nmX12, le45 rfl⟩
theorem fX12_23 : FF 12 54 23 "WaveRightModel" "unjudged" "I" false := ⟨TX12, rfl, inX12, le45 rfl, rfl, tyX12_ok, nmX12, le45 rfl⟩
theorem fX12_24 : FF 12 54 24 "WaveRightModel" "pile" "[J" true := ⟨TX12, rfl, inX12, le45 rfl, rfl, tyX12_ok, nmX12, le45 rfl⟩
theorem fX12_25 : FF 12 54 25 "WaveRightModel" "minute" "I" false := ⟨TX12, rfl, inX12, le45 rfl, rfl, tyX12_ok, nmX12, le45 rfl⟩
theorem fX12_26 : FF 12 54 26 "WaveRightModel" "start" "I" false := ⟨TX12, rfl, inX12, le45 rfl, rfl, tyX12_ok, nmX12, le45 rfl⟩
theorem fX12_27 : FF 12 54 27 "WaveRightModel" "there" "I" false := ⟨TX12, rfl, inX12, le45 rfl, rfl, tyX12_ok, nmX12, le45 rfl⟩
theorem fX12_28 : FF 12 54 28 "WaveRightModel" "next" "I" false := ⟨TX12, rfl, inX12, le45 rfl, rfl, tyX12_ok, nmX12, le45 rfl⟩
theorem fX12_29 : FF 12 54 29 "WaveRightModel" "agains" "I" false := ⟨TX12, rfl, inX12, le45 rfl, rfl, tyX12_ok, nmX12, le45 rfl⟩
theorem fX12_30 : FF 12 54 30 "WaveRightModel" "taken" "I" false := ⟨TX12, rfl, inX12, le45 rfl, rfl, tyX12_ok, nmX12, le45 rfl⟩
theorem fX12_31 : FF 12 54 31 "WaveRightModel" "judgedAll" "I" false := ⟨TX12, rfl, inX12, le45 rfl, rfl, tyX12_ok, nmX12, le45 rfl⟩
theorem fX12_32 : FF 12 54 32 "WaveRightModel" "unjudgedAll" "I" false := ⟨TX12, rfl, inX12, le45 rfl, rfl, tyX12_ok, nmX12, le45 rfl⟩
theorem fX12_33 : FF 12 54 33 "WaveRightModel" "seenMany" "I" false := ⟨TX12, rfl, inX12, le45 rfl, rfl, tyX12_ok, nmX12, le45 rfl⟩
theorem fX12_34 : FF 12 54 34 "WaveRightModel" "rowMany" "I" false := ⟨TX12, rfl, inX12, le45 rfl, rfl, tyX12_ok, nmX12, le45 rfl⟩
theorem fX12_35 : FF 12 54 35 "WaveRightModel" "isOver" "Z" false := ⟨TX12, rfl, inX12, le45 rfl, rfl, tyX12_ok, nmX12, le45 rfl⟩
theorem fX12_36 : FF 12 54 36 "WaveRightModel" "hasPriority" "Z" false := ⟨TX12, rfl, inX12, le45 rfl, rfl, tyX12_ok, nmX12, le45 rfl⟩
theorem fX12_37 : FF 12 54 37 "WaveRightModel" "wasTaken" "Z" false := ⟨TX12, rfl, inX12, le45 rfl, rfl, tyX12_ok, nmX12, le45 rfl⟩
theorem fX12_38 : FF 12 54 38 "WaveRightModel" "place" "[I" true := ⟨TX12, rfl, inX12, le45 rfl, rfl, tyX12_ok, nmX12, le45 rfl⟩
theorem fX12_39 : FF 12 54 39 "WaveRightModel" "goal" "[I" true := ⟨TX12, rfl, inX12, le45 rfl, rfl, tyX12_ok, nmX12, le45 rfl⟩
theorem fX12_40 : FF 12 54 40 "WaveRightModel" "back" "[I" true := ⟨TX12, rfl, inX12, le45 rfl, rfl, tyX12_ok, nmX12, le45 rfl⟩
theorem fX12_41 : FF 12 54 41 "WaveRightModel" "hinderings" "[I" true := ⟨TX12, rfl, inX12, le45 rfl, rfl, tyX12_ok, nmX12, le45 rfl⟩
theorem fX12_42 : FF 12 54 42 "WaveRightModel" "rides" "[I" true := ⟨TX12, rfl, inX12, le45 rfl, rfl, tyX12_ok, nmX12, le45 rfl⟩
theorem fX12_43 : FF 12 54 43 "WaveRightModel" "takenWay" "[I" true := ⟨TX12, rfl, inX12, le45 rfl, rfl, tyX12_ok, nmX12, le45 rfl⟩
theorem fX12_44 : FF 12 54 44 "WaveRightModel" "takenRide" "[I" true := ⟨TX12, rfl, inX12, le45 rfl, rfl, tyX12_ok, nmX12, le45 rfl⟩
theorem fX12_45 : FF 12 54 45 "WaveRightModel" "takenTurns" "[I" true := ⟨TX12, rfl, inX12, le45 rfl, rfl, tyX12_ok, nmX12, le45 rfl⟩
theorem fX12_46 : FF 12 54 46 "WaveRightModel" "row" "[I" true := ⟨TX12, rfl, inX12, le45 rfl, rfl, tyX12_ok, nmX12, le45 rfl⟩
theorem fX12_47 : FF 12 54 47 "WaveRightModel" "seen" "[I" true := ⟨TX12, rfl, inX12, le45 rfl, rfl, tyX12_ok, nmX12, le45 rfl⟩
theorem fX12_48 : FF 12 54 48 "WaveRightModel" "isOut" "[Z" true := ⟨TX12, rfl, inX12, le45 rfl, rfl, tyX12_ok, nmX12, le45 rfl⟩
theorem fX12_49 : FF 12 54 49 "WaveRightModel" "ride" "[I" true := ⟨TX12, rfl, inX12, le45 rfl, rfl, tyX12_ok, nmX12, le45 rfl⟩
theorem fX12_50 : FF 12 54 50 "WaveRightModel" "whom" "[I" true := ⟨TX12, rfl, inX12, le45 rfl, rfl, tyX12_ok, nmX12, le45 rfl⟩
theorem fX12_51 : FF 12 54 51 "WaveRightModel" "bestRide" "[I" true := ⟨TX12, rfl, inX12, le45 rfl, rfl, tyX12_ok, nmX12, le45 rfl⟩
theorem fX12_52 : FF 12 54 52 "WaveRightModel" "planScore" "[I" true := ⟨TX12, rfl, inX12, le45 rfl, rfl, tyX12_ok, nmX12, le45 rfl⟩
theorem fX12_53 : FF 12 54 53 "WaveRightModel" "planBack" "[I" true := ⟨TX12, rfl, inX12, le45 rfl, rfl, tyX12_ok, nmX12, le45 rfl⟩
theorem pl_J0 : plainName RJ0 = true := by decide +kernel
