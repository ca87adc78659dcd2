/-! ===== the class's methods are checked ===== -/

set_option maxRecDepth 100000 in
theorem zC_76 : (zPtb 76).all (zChq (zCr (zRk 76)) false 76) = true := by decide +kernel
set_option maxRecDepth 100000 in
theorem zC_90 : (zPtb 90).all (zChq (zCr (zRk 90)) false 90) = true := by decide +kernel
set_option maxRecDepth 100000 in
theorem zC_91 : (zPtb 91).all (zChq (zCr (zRk 91)) false 91) = true := by decide +kernel
set_option maxRecDepth 100000 in
theorem zC_92 : (zPtb 92).all (zChq (zCr (zRk 92)) false 92) = true := by decide +kernel
set_option maxRecDepth 100000 in
theorem zC_93 : (zPtb 93).all (zChq (zCr (zRk 93)) false 93) = true := by decide +kernel
set_option maxRecDepth 100000 in
theorem zC_94 : (zPtb 94).all (zChq (zCr (zRk 94)) false 94) = true := by decide +kernel
set_option maxRecDepth 100000 in
theorem zC_95 : (zPtb 95).all (zChq (zCr (zRk 95)) false 95) = true := by decide +kernel
set_option maxRecDepth 100000 in
theorem zC_96 : (zPtb 96).all (zChq (zCr (zRk 96)) false 96) = true := by decide +kernel
set_option maxRecDepth 100000 in
theorem zC_97 : (zPtb 97).all (zChq (zCr (zRk 97)) false 97) = true := by decide +kernel
set_option maxRecDepth 100000 in
theorem zC_98 : (zPtb 98).all (zChq (zCr (zRk 98)) false 98) = true := by decide +kernel
set_option maxRecDepth 100000 in
theorem zC_99 : (zPtb 99).all (zChq (zCr (zRk 99)) false 99) = true := by decide +kernel
set_option maxRecDepth 100000 in
theorem zC_100 : (zPtb 100).all (zChq (zCr (zRk 100)) false 100) = true := by decide +kernel
set_option maxRecDepth 100000 in
theorem zC_101 : (zPtb 101).all (zChq (zCr (zRk 101)) false 101) = true := by decide +kernel
set_option maxRecDepth 100000 in
theorem zC_102 : (zPtb 102).all (zChq (zCr (zRk 102)) false 102) = true := by decide +kernel
set_option maxRecDepth 100000 in
theorem zC_103 : (zPtb 103).all (zChq (zCr (zRk 103)) false 103) = true := by decide +kernel
set_option maxRecDepth 100000 in
theorem zC_104 : (zPtb 104).all (zChq (zCr (zRk 104)) false 104) = true := by decide +kernel
set_option maxRecDepth 100000 in
theorem zC_105 : (zPtb 105).all (zChq (zCr (zRk 105)) false 105) = true := by decide +kernel
set_option maxRecDepth 100000 in
theorem zC_106 : (zPtb 106).all (zChq (zCr (zRk 106)) false 106) = true := by decide +kernel
set_option maxRecDepth 100000 in
theorem zC_107 : (zPtb 107).all (zChq (zCr (zRk 107)) false 107) = true := by decide +kernel
set_option maxRecDepth 100000 in
theorem zC_108 : (zPtb 108).all (zChq (zCr (zRk 108)) false 108) = true := by decide +kernel
set_option maxRecDepth 100000 in
theorem zC_109 : (zPtb 109).all (zChq (zCr (zRk 109)) false 109) = true := by decide +kernel
set_option maxRecDepth 100000 in
theorem zC_110 : (zPtb 110).all (zChq (zCr (zRk 110)) false 110) = true := by decide +kernel
set_option maxRecDepth 100000 in
theorem zC_111 : (zPtb 111).all (zChq (zCr (zRk 111)) false 111) = true := by decide +kernel
set_option maxRecDepth 100000 in
theorem zC_112 : (zPtb 112).all (zChq (zCr (zRk 112)) false 112) = true := by decide +kernel
set_option maxRecDepth 100000 in
theorem zC_113 : (zPtb 113).all (zChq (zCr (zRk 113)) false 113) = true := by decide +kernel
set_option maxRecDepth 100000 in
theorem zC_114 : (zPtb 114).all (zChq (zCr (zRk 114)) false 114) = true := by decide +kernel
set_option maxRecDepth 100000 in
theorem zC_115 : (zPtb 115).all (zChq (zCr (zRk 115)) false 115) = true := by decide +kernel
set_option maxRecDepth 100000 in
theorem zC_116 : (zPtb 116).all (zChq (zCr (zRk 116)) false 116) = true := by decide +kernel
set_option maxRecDepth 100000 in
theorem zC_117 : (zPtb 117).all (zChq (zCr (zRk 117)) false 117) = true := by decide +kernel
set_option maxRecDepth 100000 in
theorem zC_118 : (zPtb 118).all (zChq (zCr (zRk 118)) false 118) = true := by decide +kernel
set_option maxRecDepth 100000 in
theorem zC_119 : (zPtb 119).all (zChq (zCr (zRk 119)) false 119) = true := by decide +kernel
set_option maxRecDepth 100000 in
theorem zC_120 : (zPtb 120).all (zChq (zCr (zRk 120)) false 120) = true := by decide +kernel
set_option maxRecDepth 100000 in
theorem zC_121 : (zPtb 121).all (zChq (zCr (zRk 121)) false 121) = true := by decide +kernel
set_option maxRecDepth 100000 in
theorem zC_122 : (zPtb 122).all (zChq (zCr (zRk 122)) false 122) = true := by decide +kernel
set_option maxRecDepth 100000 in
theorem zC_123 : (zPtb 123).all (zChq (zCr (zRk 123)) false 123) = true := by decide +kernel
set_option maxRecDepth 100000 in
theorem zC_124 : (zPtb 124).all (zChq (zCr (zRk 124)) false 124) = true := by decide +kernel
