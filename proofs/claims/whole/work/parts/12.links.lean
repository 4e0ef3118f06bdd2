theorem obj_1 : Cond.instanceMethod objectInit ∈ GT := (mem_GT (w := Cond.instanceMethod objectInit) (in_t1 (List.mem_of_getElem? (i := 26) (by decide +kernel))) rfl)
theorem obj_2 : Cond.code objectInit ⟨#[0xb1]⟩ 1 none ∈ GT := (mem_GT (w := Cond.code objectInit ⟨#[0xb1]⟩ 1 none) (in_t1 (List.mem_of_getElem? (i := 27) rfl)) rfl)
theorem ma_2 : Cond.initialized "java/lang/Math" ∈ GT := (mem_GT (w := Cond.initialized "java/lang/Math") (in_t1 (List.mem_of_getElem? (i := 15) (by decide +kernel))) rfl)
theorem ma_max_1 : Cond.static Lib.Math.max.name ∈ GT := (mem_GT (w := Cond.static Lib.Math.max.name) (in_t3 (List.mem_of_getElem? (i := 71) (by decide +kernel))) rfl)
theorem ma_max_3 : Cond.code Lib.Math.max.name Lib.Math.max.code 2 (some .int) ∈ GT := (mem_GT (w := Cond.code Lib.Math.max.name Lib.Math.max.code 2 (some .int)) (in_t3 (List.mem_of_getElem? (i := 72) rfl)) rfl)
theorem ma_min_1 : Cond.static Lib.Math.min.name ∈ GT := (mem_GT (w := Cond.static Lib.Math.min.name) (in_t3 (List.mem_of_getElem? (i := 74) (by decide +kernel))) rfl)
theorem ma_min_3 : Cond.code Lib.Math.min.name Lib.Math.min.code 2 (some .int) ∈ GT := (mem_GT (w := Cond.code Lib.Math.min.name Lib.Math.min.code 2 (some .int)) (in_t3 (List.mem_of_getElem? (i := 75) rfl)) rfl)
theorem ma_abs_1 : Cond.static Lib.Math.abs.name ∈ GT := (mem_GT (w := Cond.static Lib.Math.abs.name) (in_t3 (List.mem_of_getElem? (i := 170) (by decide +kernel))) rfl)
theorem ma_abs_3 : Cond.code Lib.Math.abs.name Lib.Math.abs.code 1 (some .int) ∈ GT := (mem_GT (w := Cond.code Lib.Math.abs.name Lib.Math.abs.code 1 (some .int)) (in_t3 (List.mem_of_getElem? (i := 171) rfl)) rfl)
theorem nar_20 : Cond.arrayClass .int ∈ GT := (mem_GT (w := Cond.arrayClass .int) (in_t1 (List.mem_of_getElem? (i := 97) (by decide +kernel))) rfl)
theorem nar_21 : Cond.arrayClass .long ∈ GT := (mem_GT (w := Cond.arrayClass .long) (in_t2 (List.mem_of_getElem? (i := 82) (by decide +kernel))) rfl)
theorem nar_22 : Cond.arrayClass .boolean ∈ GT := (mem_GT (w := Cond.arrayClass .boolean) (in_t5 (List.mem_of_getElem? (i := 230) (by decide +kernel))) rfl)
theorem nar_23 : Cond.arrayClass .byte ∈ GT := (mem_GT (w := Cond.arrayClass .byte) (in_t3 (List.mem_of_getElem? (i := 148) (by decide +kernel))) rfl)
theorem ml_RX11_1 : Cond.methodLink RX11 1 objectInit ∈ GT := (mem_GT (w := Cond.methodLink RX11 1 objectInit) (in_t1 (List.mem_of_getElem? (i := 25) (by decide +kernel))) rfl)
theorem ml_RX11_9 : Cond.methodLink RX11 9 yX5_init ∈ GT := (mem_GT (w := Cond.methodLink RX11 9 yX5_init) (in_t1 (List.mem_of_getElem? (i := 30) (by decide +kernel))) rfl)
theorem ml_RX11_24 : Cond.methodLinkNest RX11 24 yX9_init "HayVotes" ∈ NWl := (mem_NW (w := Cond.methodLinkNest RX11 24 yX9_init "HayVotes") (in_t1 (List.mem_of_getElem? (i := 202) (by decide +kernel))) rfl)
theorem ml_RX11_31 : Cond.methodLink RX11 31 yX4_init ∈ GT := (mem_GT (w := Cond.methodLink RX11 31 yX4_init) (in_t1 (List.mem_of_getElem? (i := 217) (by decide +kernel))) rfl)
theorem ml_RX11_40 : Cond.methodLink RX11 40 yX0_init ∈ GT := (mem_GT (w := Cond.methodLink RX11 40 yX0_init) (in_t1 (List.mem_of_getElem? (i := 239) (by decide +kernel))) rfl)
theorem ml_RX11_49 : Cond.methodLink RX11 49 yX10_init ∈ GT := (mem_GT (w := Cond.methodLink RX11 49 yX10_init) (in_t2 (List.mem_of_getElem? (i := 20) (by decide +kernel))) rfl)
theorem ml_RX11_56 : Cond.methodLinkNest RX11 56 yX2_init "HayVotes" ∈ NWl := (mem_NW (w := Cond.methodLinkNest RX11 56 yX2_init "HayVotes") (in_t2 (List.mem_of_getElem? (i := 57) (by decide +kernel))) rfl)
theorem ml_RX11_63 : Cond.methodLinkNest RX11 63 yX6_init "HayVotes" ∈ NWl := (mem_NW (w := Cond.methodLinkNest RX11 63 yX6_init "HayVotes") (in_t2 (List.mem_of_getElem? (i := 67) (by decide +kernel))) rfl)
theorem ml_RX11_70 : Cond.methodLinkNest RX11 70 yX3_init "HayVotes" ∈ NWl := (mem_NW (w := Cond.methodLinkNest RX11 70 yX3_init "HayVotes") (in_t2 (List.mem_of_getElem? (i := 85) (by decide +kernel))) rfl)
theorem ml_RX11_82 : Cond.methodLink RX11 82 yX11_isSquare ∈ GT := (mem_GT (w := Cond.methodLink RX11 82 yX11_isSquare) (in_t2 (List.mem_of_getElem? (i := 173) (by decide +kernel))) rfl)
theorem ml_RX11_86 : Cond.methodLink RX11 86 yX11_isColour ∈ GT := (mem_GT (w := Cond.methodLink RX11 86 yX11_isColour) (in_t2 (List.mem_of_getElem? (i := 179) (by decide +kernel))) rfl)
theorem ml_RX11_90 : Cond.methodLink RX11 90 yX11_isWithin ∈ GT := (mem_GT (w := Cond.methodLink RX11 90 yX11_isWithin) (in_t2 (List.mem_of_getElem? (i := 176) (by decide +kernel))) rfl)
theorem ml_RX11_98 : Cond.methodLink RX11 98 yX5_hasStackOn ∈ GT := (mem_GT (w := Cond.methodLink RX11 98 yX5_hasStackOn) (in_t2 (List.mem_of_getElem? (i := 182) (by decide +kernel))) rfl)
theorem ml_RX11_105 : Cond.methodLink RX11 105 yX7_raise ∈ GT := (mem_GT (w := Cond.methodLink RX11 105 yX7_raise) (in_t2 (List.mem_of_getElem? (i := 186) (by decide +kernel))) rfl)
theorem ml_RX11_118 : Cond.methodLink RX11 118 yX1_enter ∈ GT := (mem_GT (w := Cond.methodLink RX11 118 yX1_enter) (in_t2 (List.mem_of_getElem? (i := 194) (by decide +kernel))) rfl)
theorem ml_RX11_124 : Cond.methodLink RX11 124 yX11_hasCow ∈ GT := (mem_GT (w := Cond.methodLink RX11 124 yX11_hasCow) (in_t2 (List.mem_of_getElem? (i := 202) (by decide +kernel))) rfl)
theorem ml_RX11_131 : Cond.methodLink RX11 131 yX5_putSalt ∈ GT := (mem_GT (w := Cond.methodLink RX11 131 yX5_putSalt) (in_t2 (List.mem_of_getElem? (i := 210) (by decide +kernel))) rfl)
theorem ml_RX11_135 : Cond.methodLink RX11 135 yX11_isStanding ∈ GT := (mem_GT (w := Cond.methodLink RX11 135 yX11_isStanding) (in_t2 (List.mem_of_getElem? (i := 214) (by decide +kernel))) rfl)
theorem ml_RX11_141 : Cond.methodLink RX11 141 yX9_putInt ∈ GT := (mem_GT (w := Cond.methodLink RX11 141 yX9_putInt) (in_t2 (List.mem_of_getElem? (i := 226) (by decide +kernel))) rfl)
theorem ml_RX11_145 : Cond.methodLink RX11 145 yX4_readInto ∈ GT := (mem_GT (w := Cond.methodLink RX11 145 yX4_readInto) (in_t2 (List.mem_of_getElem? (i := 234) (by decide +kernel))) rfl)
theorem ml_RX11_149 : Cond.methodLink RX11 149 yX9_empty ∈ GT := (mem_GT (w := Cond.methodLink RX11 149 yX9_empty) (in_t3 (List.mem_of_getElem? (i := 144) (by decide +kernel))) rfl)
theorem ml_RX11_152 : Cond.methodLink RX11 152 yX3_wouldEat ∈ GT := (mem_GT (w := Cond.methodLink RX11 152 yX3_wouldEat) (in_t3 (List.mem_of_getElem? (i := 153) (by decide +kernel))) rfl)
theorem ml_RX11_156 : Cond.methodLink RX11 156 yX5_forgetAmounts ∈ GT := (mem_GT (w := Cond.methodLink RX11 156 yX5_forgetAmounts) (in_t3 (List.mem_of_getElem? (i := 186) (by decide +kernel))) rfl)
theorem ml_RX11_159 : Cond.methodLink RX11 159 yX5_bestStack ∈ GT := (mem_GT (w := Cond.methodLink RX11 159 yX5_bestStack) (in_t3 (List.mem_of_getElem? (i := 190) (by decide +kernel))) rfl)
theorem ml_RX11_162 : Cond.methodLink RX11 162 yX5_passDay ∈ GT := (mem_GT (w := Cond.methodLink RX11 162 yX5_passDay) (in_t3 (List.mem_of_getElem? (i := 204) (by decide +kernel))) rfl)
theorem ml_RX11_166 : Cond.methodLink RX11 166 yX11_hasStack ∈ GT := (mem_GT (w := Cond.methodLink RX11 166 yX11_hasStack) (in_t2 (List.mem_of_getElem? (i := 218) (by decide +kernel))) rfl)
theorem ml_RX11_169 : Cond.methodLink RX11 169 yX5_startRun ∈ GT := (mem_GT (w := Cond.methodLink RX11 169 yX5_startRun) (in_t3 (List.mem_of_getElem? (i := 230) (by decide +kernel))) rfl)
theorem ml_RX11_175 : Cond.methodLink RX11 175 yX5_standingCount ∈ GT := (mem_GT (w := Cond.methodLink RX11 175 yX5_standingCount) (in_t4 (List.mem_of_getElem? (i := 6) (by decide +kernel))) rfl)
theorem ml_RX11_179 : Cond.methodLink RX11 179 yX5_winner ∈ GT := (mem_GT (w := Cond.methodLink RX11 179 yX5_winner) (in_t4 (List.mem_of_getElem? (i := 10) (by decide +kernel))) rfl)
theorem ml_RX11_220 : Cond.methodLink RX11 220 yX0_choosePlaces ∈ GT := (mem_GT (w := Cond.methodLink RX11 220 yX0_choosePlaces) (in_t4 (List.mem_of_getElem? (i := 34) (by decide +kernel))) rfl)
theorem ml_RX11_227 : Cond.methodLink RX11 227 yX0_cheapest ∈ GT := (mem_GT (w := Cond.methodLink RX11 227 yX0_cheapest) (in_t4 (List.mem_of_getElem? (i := 38) (by decide +kernel))) rfl)
theorem ml_RX11_234 : Cond.methodLink RX11 234 yX0_spreadOn ∈ GT := (mem_GT (w := Cond.methodLink RX11 234 yX0_spreadOn) (in_t4 (List.mem_of_getElem? (i := 63) (by decide +kernel))) rfl)
theorem ml_RX11_237 : Cond.methodLink RX11 237 yX8_sum ∈ GT := (mem_GT (w := Cond.methodLink RX11 237 yX8_sum) (in_t4 (List.mem_of_getElem? (i := 68) (by decide +kernel))) rfl)
theorem ml_RX11_245 : Cond.methodLink RX11 245 yX8_factorial ∈ GT := (mem_GT (w := Cond.methodLink RX11 245 yX8_factorial) (in_t4 (List.mem_of_getElem? (i := 85) (by decide +kernel))) rfl)
theorem ml_RX11_249 : Cond.methodLink RX11 249 yX11_lowestTerms ∈ GT := (mem_GT (w := Cond.methodLink RX11 249 yX11_lowestTerms) (in_t4 (List.mem_of_getElem? (i := 86) (by decide +kernel))) rfl)
theorem ml_RX11_253 : Cond.methodLink RX11 253 yX2_tally ∈ GT := (mem_GT (w := Cond.methodLink RX11 253 yX2_tally) (in_t4 (List.mem_of_getElem? (i := 93) (by decide +kernel))) rfl)
theorem ml_RX11_257 : Cond.methodLink RX11 257 yX2_holder ∈ GT := (mem_GT (w := Cond.methodLink RX11 257 yX2_holder) (in_t4 (List.mem_of_getElem? (i := 97) (by decide +kernel))) rfl)
theorem ml_RX11_261 : Cond.methodLink RX11 261 yX2_seatsOf ∈ GT := (mem_GT (w := Cond.methodLink RX11 261 yX2_seatsOf) (in_t4 (List.mem_of_getElem? (i := 105) (by decide +kernel))) rfl)
theorem ml_RX11_264 : Cond.methodLink RX11 264 yX1_unlike ∈ GT := (mem_GT (w := Cond.methodLink RX11 264 yX1_unlike) (in_t4 (List.mem_of_getElem? (i := 114) (by decide +kernel))) rfl)
theorem ml_RX11_268 : Cond.methodLink RX11 268 yX6_throwDays ∈ GT := (mem_GT (w := Cond.methodLink RX11 268 yX6_throwDays) (in_t4 (List.mem_of_getElem? (i := 123) (by decide +kernel))) rfl)
theorem ml_RX11_271 : Cond.methodLink RX11 271 yX6_atLeast ∈ GT := (mem_GT (w := Cond.methodLink RX11 271 yX6_atLeast) (in_t4 (List.mem_of_getElem? (i := 132) (by decide +kernel))) rfl)
theorem ml_RX11_278 : Cond.methodLink RX11 278 yX10_readFrom ∈ GT := (mem_GT (w := Cond.methodLink RX11 278 yX10_readFrom) (in_t4 (List.mem_of_getElem? (i := 140) (by decide +kernel))) rfl)
theorem ml_RX11_282 : Cond.methodLink RX11 282 yX10_findFits ∈ GT := (mem_GT (w := Cond.methodLink RX11 282 yX10_findFits) (in_t4 (List.mem_of_getElem? (i := 150) (by decide +kernel))) rfl)
theorem ml_RX11_295 : Cond.methodLink RX11 295 yX5_joinWithin ∈ GT := (mem_GT (w := Cond.methodLink RX11 295 yX5_joinWithin) (in_t4 (List.mem_of_getElem? (i := 170) (by decide +kernel))) rfl)
theorem ml_RX11_302 : Cond.methodLink RX11 302 yX5_moveByChance ∈ GT := (mem_GT (w := Cond.methodLink RX11 302 yX5_moveByChance) (in_t4 (List.mem_of_getElem? (i := 195) (by decide +kernel))) rfl)
theorem ml_RX11_305 : Cond.methodLink RX11 305 yX5_copyFrom ∈ GT := (mem_GT (w := Cond.methodLink RX11 305 yX5_copyFrom) (in_t4 (List.mem_of_getElem? (i := 210) (by decide +kernel))) rfl)
theorem ml_RX11_308 : Cond.methodLink RX11 308 yX9_intAt ∈ GT := (mem_GT (w := Cond.methodLink RX11 308 yX9_intAt) (in_t4 (List.mem_of_getElem? (i := 219) (by decide +kernel))) rfl)
theorem ml_RX0_3 : Cond.methodLink RX0 3 objectInit ∈ GT := (mem_GT (w := Cond.methodLink RX0 3 objectInit) (in_t2 (List.mem_of_getElem? (i := 2) (by decide +kernel))) rfl)
theorem ml_RX0_44 : Cond.methodLink RX0 44 yX5_forgetAmounts ∈ GT := (mem_GT (w := Cond.methodLink RX0 44 yX5_forgetAmounts) (in_t4 (List.mem_of_getElem? (i := 42) (by decide +kernel))) rfl)
theorem ml_RX0_47 : Cond.methodLink RX0 47 yX0_writeRow ∈ GT := (mem_GT (w := Cond.methodLink RX0 47 yX0_writeRow) (in_t4 (List.mem_of_getElem? (i := 43) (by decide +kernel))) rfl)
theorem ml_RX0_51 : Cond.methodLink RX0 51 yX0_wins ∈ GT := (mem_GT (w := Cond.methodLink RX0 51 yX0_wins) (in_t4 (List.mem_of_getElem? (i := 47) (by decide +kernel))) rfl)
theorem ml_RX0_55 : Cond.methodLink RX0 55 yX5_startRun ∈ GT := (mem_GT (w := Cond.methodLink RX0 55 yX5_startRun) (in_t4 (List.mem_of_getElem? (i := 51) (by decide +kernel))) rfl)
theorem ml_RX0_59 : Cond.methodLink RX0 59 yX0_spreadOn ∈ GT := (mem_GT (w := Cond.methodLink RX0 59 yX0_spreadOn) (in_t4 (List.mem_of_getElem? (i := 52) (by decide +kernel))) rfl)
theorem ml_RX0_62 : Cond.methodLink RX0 62 yX5_passDay ∈ GT := (mem_GT (w := Cond.methodLink RX0 62 yX5_passDay) (in_t4 (List.mem_of_getElem? (i := 61) (by decide +kernel))) rfl)
theorem ml_RX0_66 : Cond.methodLink RX0 66 yX5_winner ∈ GT := (mem_GT (w := Cond.methodLink RX0 66 yX5_winner) (in_t4 (List.mem_of_getElem? (i := 62) (by decide +kernel))) rfl)
theorem ml_RX0_70 : Cond.methodLink RX0 70 yX7_addClover ∈ GT := (mem_GT (w := Cond.methodLink RX0 70 yX7_addClover) (in_t4 (List.mem_of_getElem? (i := 56) (by decide +kernel))) rfl)
theorem ml_RX1_3 : Cond.methodLink RX1 3 objectInit ∈ GT := (mem_GT (w := Cond.methodLink RX1 3 objectInit) (in_t1 (List.mem_of_getElem? (i := 102) (by decide +kernel))) rfl)
theorem ml_RX1_31 : Cond.methodLink RX1 31 Lib.Math.abs.name ∈ GT := (mem_GT (w := Cond.methodLink RX1 31 Lib.Math.abs.name) (in_t4 (List.mem_of_getElem? (i := 118) (by decide +kernel))) rfl)
theorem ml_RX1_37 : Cond.methodLink RX1 37 Lib.Math.min.name ∈ GT := (mem_GT (w := Cond.methodLink RX1 37 Lib.Math.min.name) (in_t4 (List.mem_of_getElem? (i := 204) (by decide +kernel))) rfl)
theorem ml_RX1_41 : Cond.methodLink RX1 41 Lib.Math.max.name ∈ GT := (mem_GT (w := Cond.methodLink RX1 41 Lib.Math.max.name) (in_t4 (List.mem_of_getElem? (i := 205) (by decide +kernel))) rfl)
theorem ml_RX2_3 : Cond.methodLink RX2 3 objectInit ∈ GT := (mem_GT (w := Cond.methodLink RX2 3 objectInit) (in_t2 (List.mem_of_getElem? (i := 60) (by decide +kernel))) rfl)
theorem ml_RX2_39 : Cond.methodLink RX2 39 yX2_holder ∈ GT := (mem_GT (w := Cond.methodLink RX2 39 yX2_holder) (in_t4 (List.mem_of_getElem? (i := 109) (by decide +kernel))) rfl)
theorem ml_RX3_1 : Cond.methodLink RX3 1 objectInit ∈ GT := (mem_GT (w := Cond.methodLink RX3 1 objectInit) (in_t2 (List.mem_of_getElem? (i := 88) (by decide +kernel))) rfl)
theorem ml_RX3_55 : Cond.methodLink RX3 55 yX3_lookAtStack ∈ GT := (mem_GT (w := Cond.methodLink RX3 55 yX3_lookAtStack) (in_t3 (List.mem_of_getElem? (i := 157) (by decide +kernel))) rfl)
theorem ml_RX3_69 : Cond.methodLink RX3 69 yX3_lookAtCow ∈ GT := (mem_GT (w := Cond.methodLink RX3 69 yX3_lookAtCow) (in_t3 (List.mem_of_getElem? (i := 165) (by decide +kernel))) rfl)
theorem ml_RX3_73 : Cond.methodLink RX3 73 yX3_firstValue ∈ GT := (mem_GT (w := Cond.methodLink RX3 73 yX3_firstValue) (in_t3 (List.mem_of_getElem? (i := 172) (by decide +kernel))) rfl)
theorem ml_RX3_77 : Cond.methodLink RX3 77 yX3_reckon ∈ GT := (mem_GT (w := Cond.methodLink RX3 77 yX3_reckon) (in_t3 (List.mem_of_getElem? (i := 176) (by decide +kernel))) rfl)
theorem ml_RX3_91 : Cond.methodLink RX3 91 yX5_isSalted ∈ GT := (mem_GT (w := Cond.methodLink RX3 91 yX5_isSalted) (in_t3 (List.mem_of_getElem? (i := 161) (by decide +kernel))) rfl)
theorem ml_RX3_104 : Cond.methodLink RX3 104 Lib.Math.abs.name ∈ GT := (mem_GT (w := Cond.methodLink RX3 104 Lib.Math.abs.name) (in_t3 (List.mem_of_getElem? (i := 169) (by decide +kernel))) rfl)
theorem ml_RX3_123 : Cond.methodLink RX3 123 Lib.Math.min.name ∈ GT := (mem_GT (w := Cond.methodLink RX3 123 Lib.Math.min.name) (in_t3 (List.mem_of_getElem? (i := 180) (by decide +kernel))) rfl)
theorem ml_RX3_126 : Cond.methodLink RX3 126 Lib.Math.max.name ∈ GT := (mem_GT (w := Cond.methodLink RX3 126 Lib.Math.max.name) (in_t3 (List.mem_of_getElem? (i := 181) (by decide +kernel))) rfl)
theorem ml_RX4_3 : Cond.methodLink RX4 3 objectInit ∈ GT := (mem_GT (w := Cond.methodLink RX4 3 objectInit) (in_t1 (List.mem_of_getElem? (i := 220) (by decide +kernel))) rfl)
theorem ml_RX4_19 : Cond.methodLink RX4 19 yX3_clear ∈ GT := (mem_GT (w := Cond.methodLink RX4 19 yX3_clear) (in_t2 (List.mem_of_getElem? (i := 238) (by decide +kernel))) rfl)
theorem ml_RX4_34 : Cond.methodLink RX4 34 yX4_clauses ∈ GT := (mem_GT (w := Cond.methodLink RX4 34 yX4_clauses) (in_t3 (List.mem_of_getElem? (i := 2) (by decide +kernel))) rfl)
theorem ml_RX4_47 : Cond.methodLink RX4 47 yX4_sign ∈ GT := (mem_GT (w := Cond.methodLink RX4 47 yX4_sign) (in_t3 (List.mem_of_getElem? (i := 6) (by decide +kernel))) rfl)
theorem ml_RX4_51 : Cond.methodLink RX4 51 yX4_fail ∈ GT := (mem_GT (w := Cond.methodLink RX4 51 yX4_fail) (in_t3 (List.mem_of_getElem? (i := 10) (by decide +kernel))) rfl)
theorem ml_RX4_55 : Cond.methodLink RX4 55 yX4_clause ∈ GT := (mem_GT (w := Cond.methodLink RX4 55 yX4_clause) (in_t3 (List.mem_of_getElem? (i := 14) (by decide +kernel))) rfl)
theorem ml_RX4_58 : Cond.methodLink RX4 58 yX4_expect ∈ GT := (mem_GT (w := Cond.methodLink RX4 58 yX4_expect) (in_t3 (List.mem_of_getElem? (i := 26) (by decide +kernel))) rfl)
theorem ml_RX4_64 : Cond.methodLink RX4 64 yX4_expression ∈ GT := (mem_GT (w := Cond.methodLink RX4 64 yX4_expression) (in_t3 (List.mem_of_getElem? (i := 18) (by decide +kernel))) rfl)
theorem ml_RX4_67 : Cond.methodLink RX4 67 yX4_condition ∈ GT := (mem_GT (w := Cond.methodLink RX4 67 yX4_condition) (in_t3 (List.mem_of_getElem? (i := 128) (by decide +kernel))) rfl)
theorem ml_RX4_70 : Cond.methodLink RX4 70 yX3_addClause ∈ GT := (mem_GT (w := Cond.methodLink RX4 70 yX3_addClause) (in_t3 (List.mem_of_getElem? (i := 140) (by decide +kernel))) rfl)
theorem ml_RX4_74 : Cond.methodLink RX4 74 yX4_piece ∈ GT := (mem_GT (w := Cond.methodLink RX4 74 yX4_piece) (in_t3 (List.mem_of_getElem? (i := 132) (by decide +kernel))) rfl)
theorem ml_RX4_77 : Cond.methodLink RX4 77 yX3_landJumps ∈ GT := (mem_GT (w := Cond.methodLink RX4 77 yX3_landJumps) (in_t3 (List.mem_of_getElem? (i := 136) (by decide +kernel))) rfl)
theorem ml_RX4_81 : Cond.methodLink RX4 81 yX3_add ∈ GT := (mem_GT (w := Cond.methodLink RX4 81 yX3_add) (in_t3 (List.mem_of_getElem? (i := 37) (by decide +kernel))) rfl)
theorem ml_RX4_84 : Cond.methodLink RX4 84 yX4_factor ∈ GT := (mem_GT (w := Cond.methodLink RX4 84 yX4_factor) (in_t3 (List.mem_of_getElem? (i := 22) (by decide +kernel))) rfl)
theorem ml_RX4_87 : Cond.methodLink RX4 87 yX4_isDigit ∈ GT := (mem_GT (w := Cond.methodLink RX4 87 yX4_isDigit) (in_t3 (List.mem_of_getElem? (i := 30) (by decide +kernel))) rfl)
theorem ml_RX4_90 : Cond.methodLink RX4 90 yX4_number ∈ GT := (mem_GT (w := Cond.methodLink RX4 90 yX4_number) (in_t3 (List.mem_of_getElem? (i := 33) (by decide +kernel))) rfl)
theorem ml_RX4_95 : Cond.methodLink RX4 95 yJ0_indexOf_0f7a4 ∈ GT := (mem_GT (w := Cond.methodLink RX4 95 yJ0_indexOf_0f7a4) (in_t3 (List.mem_of_getElem? (i := 42) (by decide +kernel))) rfl)
theorem ml_RX5_3 : Cond.methodLink RX5 3 objectInit ∈ GT := (mem_GT (w := Cond.methodLink RX5 3 objectInit) (in_t1 (List.mem_of_getElem? (i := 33) (by decide +kernel))) rfl)
theorem ml_RX5_46 : Cond.methodLinkNest RX5 46 yX7_init "HayVotes" ∈ NWl := (mem_NW (w := Cond.methodLinkNest RX5 46 yX7_init "HayVotes") (in_t1 (List.mem_of_getElem? (i := 39) (by decide +kernel))) rfl)
theorem ml_RX5_47 : Cond.methodLinkNest RX5 47 yX1_init "HayVotes" ∈ NWl := (mem_NW (w := Cond.methodLinkNest RX5 47 yX1_init "HayVotes") (in_t1 (List.mem_of_getElem? (i := 99) (by decide +kernel))) rfl)
theorem ml_RX5_57 : Cond.methodLink RX5 57 yX7_copyFrom ∈ GT := (mem_GT (w := Cond.methodLink RX5 57 yX7_copyFrom) (in_t3 (List.mem_of_getElem? (i := 238) (by decide +kernel))) rfl)
theorem ml_RX5_61 : Cond.methodLink RX5 61 yX1_copyFrom ∈ GT := (mem_GT (w := Cond.methodLink RX5 61 yX1_copyFrom) (in_t4 (List.mem_of_getElem? (i := 2) (by decide +kernel))) rfl)
theorem ml_RX5_64 : Cond.methodLink RX5 64 yX5_copyFrom ∈ GT := (mem_GT (w := Cond.methodLink RX5 64 yX5_copyFrom) (in_t3 (List.mem_of_getElem? (i := 234) (by decide +kernel))) rfl)
theorem ml_RX5_80 : Cond.methodLink RX5 80 yX5_isSalted ∈ GT := (mem_GT (w := Cond.methodLink RX5 80 yX5_isSalted) (in_t3 (List.mem_of_getElem? (i := 194) (by decide +kernel))) rfl)
theorem ml_RX5_84 : Cond.methodLink RX5 84 yX3_looksOf ∈ GT := (mem_GT (w := Cond.methodLink RX5 84 yX3_looksOf) (in_t3 (List.mem_of_getElem? (i := 195) (by decide +kernel))) rfl)
theorem ml_RX5_90 : Cond.methodLink RX5 90 yX3_wouldEat ∈ GT := (mem_GT (w := Cond.methodLink RX5 90 yX3_wouldEat) (in_t3 (List.mem_of_getElem? (i := 199) (by decide +kernel))) rfl)
theorem ml_RX5_94 : Cond.methodLink RX5 94 yX5_bestStack ∈ GT := (mem_GT (w := Cond.methodLink RX5 94 yX5_bestStack) (in_t3 (List.mem_of_getElem? (i := 208) (by decide +kernel))) rfl)
theorem ml_RX5_98 : Cond.methodLink RX5 98 yX5_eatAt ∈ GT := (mem_GT (w := Cond.methodLink RX5 98 yX5_eatAt) (in_t3 (List.mem_of_getElem? (i := 209) (by decide +kernel))) rfl)
theorem ml_RX5_102 : Cond.methodLink RX5 102 yX5_heatUp ∈ GT := (mem_GT (w := Cond.methodLink RX5 102 yX5_heatUp) (in_t3 (List.mem_of_getElem? (i := 214) (by decide +kernel))) rfl)
theorem ml_RX5_109 : Cond.methodLink RX5 109 Lib.Math.min.name ∈ GT := (mem_GT (w := Cond.methodLink RX5 109 Lib.Math.min.name) (in_t3 (List.mem_of_getElem? (i := 213) (by decide +kernel))) rfl)
theorem ml_RX5_129 : Cond.methodLink RX5 129 yX3_hotterBy ∈ GT := (mem_GT (w := Cond.methodLink RX5 129 yX3_hotterBy) (in_t3 (List.mem_of_getElem? (i := 218) (by decide +kernel))) rfl)
theorem ml_RX5_133 : Cond.methodLink RX5 133 yX7_vanish ∈ GT := (mem_GT (w := Cond.methodLink RX5 133 yX7_vanish) (in_t3 (List.mem_of_getElem? (i := 222) (by decide +kernel))) rfl)
theorem ml_RX5_136 : Cond.methodLink RX5 136 yX7_canJoin ∈ GT := (mem_GT (w := Cond.methodLink RX5 136 yX7_canJoin) (in_t4 (List.mem_of_getElem? (i := 174) (by decide +kernel))) rfl)
theorem ml_RX5_140 : Cond.methodLink RX5 140 yX7_takeIn ∈ GT := (mem_GT (w := Cond.methodLink RX5 140 yX7_takeIn) (in_t4 (List.mem_of_getElem? (i := 179) (by decide +kernel))) rfl)
theorem ml_RX5_144 : Cond.methodLink RX5 144 yX1_step ∈ GT := (mem_GT (w := Cond.methodLink RX5 144 yX1_step) (in_t4 (List.mem_of_getElem? (i := 200) (by decide +kernel))) rfl)
theorem ml_RX6_1 : Cond.methodLink RX6 1 objectInit ∈ GT := (mem_GT (w := Cond.methodLink RX6 1 objectInit) (in_t2 (List.mem_of_getElem? (i := 70) (by decide +kernel))) rfl)
theorem ml_RX6_21 : Cond.methodLink RX6 21 yX6_addDay ∈ GT := (mem_GT (w := Cond.methodLink RX6 21 yX6_addDay) (in_t4 (List.mem_of_getElem? (i := 127) (by decide +kernel))) rfl)
theorem ml_RX6_25 : Cond.methodLink RX6 25 Lib.Math.max.name ∈ GT := (mem_GT (w := Cond.methodLink RX6 25 Lib.Math.max.name) (in_t4 (List.mem_of_getElem? (i := 131) (by decide +kernel))) rfl)
theorem ml_RX7_3 : Cond.methodLink RX7 3 objectInit ∈ GT := (mem_GT (w := Cond.methodLink RX7 3 objectInit) (in_t1 (List.mem_of_getElem? (i := 42) (by decide +kernel))) rfl)
theorem ml_RX7_41 : Cond.methodLink RX7 41 Lib.Math.min.name ∈ GT := (mem_GT (w := Cond.methodLink RX7 41 Lib.Math.min.name) (in_t4 (List.mem_of_getElem? (i := 60) (by decide +kernel))) rfl)
theorem ml_RX7_47 : Cond.methodLink RX7 47 Lib.Math.abs.name ∈ GT := (mem_GT (w := Cond.methodLink RX7 47 Lib.Math.abs.name) (in_t4 (List.mem_of_getElem? (i := 178) (by decide +kernel))) rfl)
theorem ml_RX7_51 : Cond.methodLink RX7 51 yX7_addClover ∈ GT := (mem_GT (w := Cond.methodLink RX7 51 yX7_addClover) (in_t4 (List.mem_of_getElem? (i := 183) (by decide +kernel))) rfl)
theorem ml_RX7_55 : Cond.methodLink RX7 55 Lib.Math.max.name ∈ GT := (mem_GT (w := Cond.methodLink RX7 55 Lib.Math.max.name) (in_t4 (List.mem_of_getElem? (i := 184) (by decide +kernel))) rfl)
theorem ml_RX7_58 : Cond.methodLink RX7 58 yX7_vanish ∈ GT := (mem_GT (w := Cond.methodLink RX7 58 yX7_vanish) (in_t4 (List.mem_of_getElem? (i := 185) (by decide +kernel))) rfl)
theorem ml_RX8_21 : Cond.methodLink RX8 21 yX8_bullCount ∈ GT := (mem_GT (w := Cond.methodLink RX8 21 yX8_bullCount) (in_t4 (List.mem_of_getElem? (i := 71) (by decide +kernel))) rfl)
theorem ml_RX8_30 : Cond.methodLink RX8 30 yX8_choose ∈ GT := (mem_GT (w := Cond.methodLink RX8 30 yX8_choose) (in_t4 (List.mem_of_getElem? (i := 74) (by decide +kernel))) rfl)
theorem ml_RX8_34 : Cond.methodLink RX8 34 yX8_factorial ∈ GT := (mem_GT (w := Cond.methodLink RX8 34 yX8_factorial) (in_t4 (List.mem_of_getElem? (i := 77) (by decide +kernel))) rfl)
theorem ml_RX9_3 : Cond.methodLink RX9 3 objectInit ∈ GT := (mem_GT (w := Cond.methodLink RX9 3 objectInit) (in_t1 (List.mem_of_getElem? (i := 205) (by decide +kernel))) rfl)
theorem ml_RX9_19 : Cond.methodLinkNest RX9 19 yX11_isWithin "HayVotes" ∈ NWl := (mem_NW (w := Cond.methodLinkNest RX9 19 yX11_isWithin "HayVotes") (in_t4 (List.mem_of_getElem? (i := 148) (by decide +kernel))) rfl)
theorem ml_RX9_23 : Cond.methodLink RX9 23 yX9_byteAt ∈ GT := (mem_GT (w := Cond.methodLink RX9 23 yX9_byteAt) (in_t4 (List.mem_of_getElem? (i := 223) (by decide +kernel))) rfl)
theorem ml_RX10_3 : Cond.methodLink RX10 3 objectInit ∈ GT := (mem_GT (w := Cond.methodLink RX10 3 objectInit) (in_t2 (List.mem_of_getElem? (i := 23) (by decide +kernel))) rfl)
theorem ml_RX10_32 : Cond.methodLink RX10 32 yX9_byteAt ∈ GT := (mem_GT (w := Cond.methodLink RX10 32 yX9_byteAt) (in_t4 (List.mem_of_getElem? (i := 144) (by decide +kernel))) rfl)
theorem ml_RX10_38 : Cond.methodLink RX10 38 Lib.Math.max.name ∈ GT := (mem_GT (w := Cond.methodLink RX10 38 Lib.Math.max.name) (in_t4 (List.mem_of_getElem? (i := 149) (by decide +kernel))) rfl)
theorem ml_RX10_61 : Cond.methodLink RX10 61 yX5_forgetAmounts ∈ GT := (mem_GT (w := Cond.methodLink RX10 61 yX5_forgetAmounts) (in_t4 (List.mem_of_getElem? (i := 154) (by decide +kernel))) rfl)
theorem ml_RX10_76 : Cond.methodLink RX10 76 yX10_fits ∈ GT := (mem_GT (w := Cond.methodLink RX10 76 yX10_fits) (in_t4 (List.mem_of_getElem? (i := 155) (by decide +kernel))) rfl)
theorem ml_RX10_80 : Cond.methodLink RX10 80 yX10_countFit ∈ GT := (mem_GT (w := Cond.methodLink RX10 80 yX10_countFit) (in_t4 (List.mem_of_getElem? (i := 162) (by decide +kernel))) rfl)
theorem ml_RX10_84 : Cond.methodLink RX10 84 yX5_startRun ∈ GT := (mem_GT (w := Cond.methodLink RX10 84 yX5_startRun) (in_t4 (List.mem_of_getElem? (i := 159) (by decide +kernel))) rfl)
theorem ml_RX10_88 : Cond.methodLink RX10 88 yX5_putSalt ∈ GT := (mem_GT (w := Cond.methodLink RX10 88 yX5_putSalt) (in_t4 (List.mem_of_getElem? (i := 160) (by decide +kernel))) rfl)
theorem ml_RX10_91 : Cond.methodLink RX10 91 yX5_passDay ∈ GT := (mem_GT (w := Cond.methodLink RX10 91 yX5_passDay) (in_t4 (List.mem_of_getElem? (i := 161) (by decide +kernel))) rfl)
theorem ml_RL_9 : Cond.methodLink RL 9 yX11_init ∈ GT := (mem_GT (w := Cond.methodLink RL 9 yX11_init) (in_t1 (List.mem_of_getElem? (i := 22) (by decide +kernel))) rfl)
theorem ml_RL_12 : Cond.methodLink RL 12 yX12_init ∈ GT := (mem_GT (w := Cond.methodLink RL 12 yX12_init) (in_t4 (List.mem_of_getElem? (i := 230) (by decide +kernel))) rfl)
theorem ml_RL_13 : Cond.methodLink RL 13 yX11_stack ∈ GT := (mem_GT (w := Cond.methodLink RL 13 yX11_stack) (in_t2 (List.mem_of_getElem? (i := 169) (by decide +kernel))) rfl)
theorem ml_RL_17 : Cond.methodLink RL 17 yX12_stack ∈ GT := (mem_GT (w := Cond.methodLink RL 17 yX12_stack) (in_t5 (List.mem_of_getElem? (i := 231) (by decide +kernel))) rfl)
theorem ml_RL_18 : Cond.methodLink RL 18 yX11_cow ∈ GT := (mem_GT (w := Cond.methodLink RL 18 yX11_cow) (in_t2 (List.mem_of_getElem? (i := 190) (by decide +kernel))) rfl)
theorem ml_RL_22 : Cond.methodLink RL 22 yX12_cow ∈ GT := (mem_GT (w := Cond.methodLink RL 22 yX12_cow) (in_t6 (List.mem_of_getElem? (i := 11) (by decide +kernel))) rfl)
theorem ml_RL_23 : Cond.methodLink RL 23 yX11_taste ∈ GT := (mem_GT (w := Cond.methodLink RL 23 yX11_taste) (in_t2 (List.mem_of_getElem? (i := 198) (by decide +kernel))) rfl)
theorem ml_RL_27 : Cond.methodLink RL 27 yX12_taste ∈ GT := (mem_GT (w := Cond.methodLink RL 27 yX12_taste) (in_t6 (List.mem_of_getElem? (i := 15) (by decide +kernel))) rfl)
theorem ml_RL_28 : Cond.methodLink RL 28 yX11_salt ∈ GT := (mem_GT (w := Cond.methodLink RL 28 yX11_salt) (in_t2 (List.mem_of_getElem? (i := 206) (by decide +kernel))) rfl)
theorem ml_RL_32 : Cond.methodLink RL 32 yX12_salt ∈ GT := (mem_GT (w := Cond.methodLink RL 32 yX12_salt) (in_t6 (List.mem_of_getElem? (i := 24) (by decide +kernel))) rfl)
theorem ml_RL_33 : Cond.methodLink RL 33 yX11_feed ∈ GT := (mem_GT (w := Cond.methodLink RL 33 yX11_feed) (in_t2 (List.mem_of_getElem? (i := 222) (by decide +kernel))) rfl)
theorem ml_RL_37 : Cond.methodLink RL 37 yX12_feed ∈ GT := (mem_GT (w := Cond.methodLink RL 37 yX12_feed) (in_t6 (List.mem_of_getElem? (i := 36) (by decide +kernel))) rfl)
theorem ml_RL_38 : Cond.methodLink RL 38 yX11_law ∈ GT := (mem_GT (w := Cond.methodLink RL 38 yX11_law) (in_t2 (List.mem_of_getElem? (i := 230) (by decide +kernel))) rfl)
theorem ml_RL_42 : Cond.methodLink RL 42 yX12_law ∈ GT := (mem_GT (w := Cond.methodLink RL 42 yX12_law) (in_t6 (List.mem_of_getElem? (i := 44) (by decide +kernel))) rfl)
theorem ml_RL_43 : Cond.methodLink RL 43 yX11_would ∈ GT := (mem_GT (w := Cond.methodLink RL 43 yX11_would) (in_t3 (List.mem_of_getElem? (i := 149) (by decide +kernel))) rfl)
theorem ml_RL_47 : Cond.methodLink RL 47 yX12_would ∈ GT := (mem_GT (w := Cond.methodLink RL 47 yX12_would) (in_t6 (List.mem_of_getElem? (i := 139) (by decide +kernel))) rfl)
theorem ml_RL_48 : Cond.methodLink RL 48 yX11_chooses ∈ GT := (mem_GT (w := Cond.methodLink RL 48 yX11_chooses) (in_t3 (List.mem_of_getElem? (i := 182) (by decide +kernel))) rfl)
theorem ml_RL_51 : Cond.methodLink RL 51 yX12_chooses ∈ GT := (mem_GT (w := Cond.methodLink RL 51 yX12_chooses) (in_t6 (List.mem_of_getElem? (i := 180) (by decide +kernel))) rfl)
theorem ml_RL_52 : Cond.methodLink RL 52 yX11_days ∈ GT := (mem_GT (w := Cond.methodLink RL 52 yX11_days) (in_t3 (List.mem_of_getElem? (i := 200) (by decide +kernel))) rfl)
theorem ml_RL_55 : Cond.methodLink RL 55 yX12_days ∈ GT := (mem_GT (w := Cond.methodLink RL 55 yX12_days) (in_t6 (List.mem_of_getElem? (i := 188) (by decide +kernel))) rfl)
theorem ml_RL_56 : Cond.methodLink RL 56 yX11_run ∈ GT := (mem_GT (w := Cond.methodLink RL 56 yX11_run) (in_t3 (List.mem_of_getElem? (i := 226) (by decide +kernel))) rfl)
theorem ml_RL_59 : Cond.methodLink RL 59 yX12_run ∈ GT := (mem_GT (w := Cond.methodLink RL 59 yX12_run) (in_t6 (List.mem_of_getElem? (i := 200) (by decide +kernel))) rfl)
theorem ml_RL_60 : Cond.methodLink RL 60 yX11_stackIs ∈ GT := (mem_GT (w := Cond.methodLink RL 60 yX11_stackIs) (in_t4 (List.mem_of_getElem? (i := 14) (by decide +kernel))) rfl)
theorem ml_RL_63 : Cond.methodLink RL 63 yX12_stackIs ∈ GT := (mem_GT (w := Cond.methodLink RL 63 yX12_stackIs) (in_t6 (List.mem_of_getElem? (i := 226) (by decide +kernel))) rfl)
theorem ml_RL_64 : Cond.methodLink RL 64 yX11_cowIs ∈ GT := (mem_GT (w := Cond.methodLink RL 64 yX11_cowIs) (in_t4 (List.mem_of_getElem? (i := 18) (by decide +kernel))) rfl)
theorem ml_RL_67 : Cond.methodLink RL 67 yX12_cowIs ∈ GT := (mem_GT (w := Cond.methodLink RL 67 yX12_cowIs) (in_t6 (List.mem_of_getElem? (i := 230) (by decide +kernel))) rfl)
theorem ml_RL_68 : Cond.methodLink RL 68 yX11_eaten ∈ GT := (mem_GT (w := Cond.methodLink RL 68 yX11_eaten) (in_t4 (List.mem_of_getElem? (i := 22) (by decide +kernel))) rfl)
theorem ml_RL_71 : Cond.methodLink RL 71 yX12_eaten ∈ GT := (mem_GT (w := Cond.methodLink RL 71 yX12_eaten) (in_t6 (List.mem_of_getElem? (i := 235) (by decide +kernel))) rfl)
theorem ml_RL_72 : Cond.methodLink RL 72 yX11_votes ∈ GT := (mem_GT (w := Cond.methodLink RL 72 yX11_votes) (in_t4 (List.mem_of_getElem? (i := 26) (by decide +kernel))) rfl)
theorem ml_RL_75 : Cond.methodLink RL 75 yX12_votes ∈ GT := (mem_GT (w := Cond.methodLink RL 75 yX12_votes) (in_t6 (List.mem_of_getElem? (i := 239) (by decide +kernel))) rfl)
theorem ml_RL_76 : Cond.methodLink RL 76 yX11_campaign ∈ GT := (mem_GT (w := Cond.methodLink RL 76 yX11_campaign) (in_t4 (List.mem_of_getElem? (i := 30) (by decide +kernel))) rfl)
theorem ml_RL_80 : Cond.methodLink RL 80 yX12_campaign ∈ GT := (mem_GT (w := Cond.methodLink RL 80 yX12_campaign) (in_t7 (List.mem_of_getElem? (i := 3) (by decide +kernel))) rfl)
theorem ml_RL_81 : Cond.methodLink RL 81 yX11_power ∈ GT := (mem_GT (w := Cond.methodLink RL 81 yX11_power) (in_t4 (List.mem_of_getElem? (i := 64) (by decide +kernel))) rfl)
theorem ml_RL_84 : Cond.methodLink RL 84 yX12_power ∈ GT := (mem_GT (w := Cond.methodLink RL 84 yX12_power) (in_t7 (List.mem_of_getElem? (i := 19) (by decide +kernel))) rfl)
theorem ml_RL_85 : Cond.methodLink RL 85 yX11_share ∈ GT := (mem_GT (w := Cond.methodLink RL 85 yX11_share) (in_t4 (List.mem_of_getElem? (i := 80) (by decide +kernel))) rfl)
theorem ml_RL_89 : Cond.methodLink RL 89 yX12_share ∈ GT := (mem_GT (w := Cond.methodLink RL 89 yX12_share) (in_t7 (List.mem_of_getElem? (i := 34) (by decide +kernel))) rfl)
theorem ml_RL_90 : Cond.methodLink RL 90 yX11_seat ∈ GT := (mem_GT (w := Cond.methodLink RL 90 yX11_seat) (in_t4 (List.mem_of_getElem? (i := 89) (by decide +kernel))) rfl)
theorem ml_RL_93 : Cond.methodLink RL 93 yX12_seat ∈ GT := (mem_GT (w := Cond.methodLink RL 93 yX12_seat) (in_t7 (List.mem_of_getElem? (i := 47) (by decide +kernel))) rfl)
theorem ml_RL_94 : Cond.methodLink RL 94 yX11_cut ∈ GT := (mem_GT (w := Cond.methodLink RL 94 yX11_cut) (in_t4 (List.mem_of_getElem? (i := 101) (by decide +kernel))) rfl)
theorem ml_RL_97 : Cond.methodLink RL 97 yX12_cut ∈ GT := (mem_GT (w := Cond.methodLink RL 97 yX12_cut) (in_t7 (List.mem_of_getElem? (i := 55) (by decide +kernel))) rfl)
theorem ml_RL_98 : Cond.methodLink RL 98 yX11_foreseen ∈ GT := (mem_GT (w := Cond.methodLink RL 98 yX11_foreseen) (in_t4 (List.mem_of_getElem? (i := 110) (by decide +kernel))) rfl)
theorem ml_RL_101 : Cond.methodLink RL 101 yX12_foreseen ∈ GT := (mem_GT (w := Cond.methodLink RL 101 yX12_foreseen) (in_t7 (List.mem_of_getElem? (i := 60) (by decide +kernel))) rfl)
theorem ml_RL_102 : Cond.methodLink RL 102 yX11_burns ∈ GT := (mem_GT (w := Cond.methodLink RL 102 yX11_burns) (in_t4 (List.mem_of_getElem? (i := 119) (by decide +kernel))) rfl)
theorem ml_RL_106 : Cond.methodLink RL 106 yX12_burns ∈ GT := (mem_GT (w := Cond.methodLink RL 106 yX12_burns) (in_t7 (List.mem_of_getElem? (i := 65) (by decide +kernel))) rfl)
theorem ml_RL_107 : Cond.methodLink RL 107 yX11_salted ∈ GT := (mem_GT (w := Cond.methodLink RL 107 yX11_salted) (in_t4 (List.mem_of_getElem? (i := 136) (by decide +kernel))) rfl)
theorem ml_RL_110 : Cond.methodLink RL 110 yX12_salted ∈ GT := (mem_GT (w := Cond.methodLink RL 110 yX12_salted) (in_t7 (List.mem_of_getElem? (i := 71) (by decide +kernel))) rfl)
theorem ml_RL_111 : Cond.methodLink RL 111 yX11_storm ∈ GT := (mem_GT (w := Cond.methodLink RL 111 yX11_storm) (in_t4 (List.mem_of_getElem? (i := 166) (by decide +kernel))) rfl)
theorem ml_RL_114 : Cond.methodLink RL 114 yX12_storm ∈ GT := (mem_GT (w := Cond.methodLink RL 114 yX12_storm) (in_t7 (List.mem_of_getElem? (i := 87) (by decide +kernel))) rfl)
theorem ml_RL_115 : Cond.methodLink RL 115 yX11_seed ∈ GT := (mem_GT (w := Cond.methodLink RL 115 yX11_seed) (in_t4 (List.mem_of_getElem? (i := 186) (by decide +kernel))) rfl)
theorem ml_RL_119 : Cond.methodLink RL 119 yX12_seed ∈ GT := (mem_GT (w := Cond.methodLink RL 119 yX12_seed) (in_t7 (List.mem_of_getElem? (i := 99) (by decide +kernel))) rfl)
theorem ml_RL_120 : Cond.methodLink RL 120 yX11_draw ∈ GT := (mem_GT (w := Cond.methodLink RL 120 yX11_draw) (in_t4 (List.mem_of_getElem? (i := 191) (by decide +kernel))) rfl)
theorem ml_RL_123 : Cond.methodLink RL 123 yX12_draw ∈ GT := (mem_GT (w := Cond.methodLink RL 123 yX12_draw) (in_t7 (List.mem_of_getElem? (i := 104) (by decide +kernel))) rfl)
theorem ml_RL_124 : Cond.methodLink RL 124 yX11_keep ∈ GT := (mem_GT (w := Cond.methodLink RL 124 yX11_keep) (in_t4 (List.mem_of_getElem? (i := 206) (by decide +kernel))) rfl)
theorem ml_RL_128 : Cond.methodLink RL 128 yX12_keep ∈ GT := (mem_GT (w := Cond.methodLink RL 128 yX12_keep) (in_t7 (List.mem_of_getElem? (i := 112) (by decide +kernel))) rfl)
theorem ml_RL_129 : Cond.methodLink RL 129 yX11_undo ∈ GT := (mem_GT (w := Cond.methodLink RL 129 yX11_undo) (in_t4 (List.mem_of_getElem? (i := 211) (by decide +kernel))) rfl)
theorem ml_RL_133 : Cond.methodLink RL 133 yX12_undo ∈ GT := (mem_GT (w := Cond.methodLink RL 133 yX12_undo) (in_t7 (List.mem_of_getElem? (i := 120) (by decide +kernel))) rfl)
theorem ml_RL_134 : Cond.methodLink RL 134 yX11_check ∈ GT := (mem_GT (w := Cond.methodLink RL 134 yX11_check) (in_t4 (List.mem_of_getElem? (i := 215) (by decide +kernel))) rfl)
theorem ml_RL_137 : Cond.methodLink RL 137 yX12_check ∈ GT := (mem_GT (w := Cond.methodLink RL 137 yX12_check) (in_t7 (List.mem_of_getElem? (i := 124) (by decide +kernel))) rfl)
theorem ml_RL_138 : Cond.methodLink RL 138 yX11_count ∈ GT := (mem_GT (w := Cond.methodLink RL 138 yX11_count) (in_t4 (List.mem_of_getElem? (i := 224) (by decide +kernel))) rfl)
theorem ml_RL_141 : Cond.methodLink RL 141 yX12_count ∈ GT := (mem_GT (w := Cond.methodLink RL 141 yX12_count) (in_t7 (List.mem_of_getElem? (i := 133) (by decide +kernel))) rfl)
theorem ml_RX12_1 : Cond.methodLink RX12 1 objectInit ∈ GT := (mem_GT (w := Cond.methodLink RX12 1 objectInit) (in_t4 (List.mem_of_getElem? (i := 233) (by decide +kernel))) rfl)
theorem ml_RX12_188 : Cond.methodLink RX12 188 yX12_lies ∈ GT := (mem_GT (w := Cond.methodLink RX12 188 yX12_lies) (in_t5 (List.mem_of_getElem? (i := 239) (by decide +kernel))) rfl)
theorem ml_RX12_195 : Cond.methodLink RX12 195 yX12_isStack ∈ GT := (mem_GT (w := Cond.methodLink RX12 195 yX12_isStack) (in_t6 (List.mem_of_getElem? (i := 32) (by decide +kernel))) rfl)
theorem ml_RX12_206 : Cond.methodLink RX12 206 yX12_isSide ∈ GT := (mem_GT (w := Cond.methodLink RX12 206 yX12_isSide) (in_t5 (List.mem_of_getElem? (i := 235) (by decide +kernel))) rfl)
theorem ml_RX12_209 : Cond.methodLink RX12 209 yX12_isColour ∈ GT := (mem_GT (w := Cond.methodLink RX12 209 yX12_isColour) (in_t6 (List.mem_of_getElem? (i := 2) (by decide +kernel))) rfl)
theorem ml_RX12_214 : Cond.methodLink RX12 214 yX12_isFull ∈ GT := (mem_GT (w := Cond.methodLink RX12 214 yX12_isFull) (in_t6 (List.mem_of_getElem? (i := 7) (by decide +kernel))) rfl)
theorem ml_RX12_217 : Cond.methodLink RX12 217 yX12_isCow ∈ GT := (mem_GT (w := Cond.methodLink RX12 217 yX12_isCow) (in_t6 (List.mem_of_getElem? (i := 19) (by decide +kernel))) rfl)
theorem ml_RX12_222 : Cond.methodLink RX12 222 yX12_isThere ∈ GT := (mem_GT (w := Cond.methodLink RX12 222 yX12_isThere) (in_t6 (List.mem_of_getElem? (i := 28) (by decide +kernel))) rfl)
theorem ml_RX12_231 : Cond.methodLink RX12 231 yX12_push ∈ GT := (mem_GT (w := Cond.methodLink RX12 231 yX12_push) (in_t6 (List.mem_of_getElem? (i := 40) (by decide +kernel))) rfl)
theorem ml_RX12_244 : Cond.methodLink RX12 244 yX12_isGood ∈ GT := (mem_GT (w := Cond.methodLink RX12 244 yX12_isGood) (in_t6 (List.mem_of_getElem? (i := 49) (by decide +kernel))) rfl)
theorem ml_RX12_257 : Cond.methodLink RX12 257 yX12_wrongs ∈ GT := (mem_GT (w := Cond.methodLink RX12 257 yX12_wrongs) (in_t6 (List.mem_of_getElem? (i := 61) (by decide +kernel))) rfl)
theorem ml_RX12_261 : Cond.methodLink RX12 261 yX12_here ∈ GT := (mem_GT (w := Cond.methodLink RX12 261 yX12_here) (in_t6 (List.mem_of_getElem? (i := 57) (by decide +kernel))) rfl)
theorem ml_RX12_265 : Cond.methodLink RX12 265 yX12_puts ∈ GT := (mem_GT (w := Cond.methodLink RX12 265 yX12_puts) (in_t6 (List.mem_of_getElem? (i := 77) (by decide +kernel))) rfl)
theorem ml_RX12_272 : Cond.methodLink RX12 272 yX12_seesDigit ∈ GT := (mem_GT (w := Cond.methodLink RX12 272 yX12_seesDigit) (in_t6 (List.mem_of_getElem? (i := 81) (by decide +kernel))) rfl)
theorem ml_RX12_275 : Cond.methodLink RX12 275 yX12_top ∈ GT := (mem_GT (w := Cond.methodLink RX12 275 yX12_top) (in_t6 (List.mem_of_getElem? (i := 112) (by decide +kernel))) rfl)
theorem ml_RX12_278 : Cond.methodLink RX12 278 yX12_isTimes ∈ GT := (mem_GT (w := Cond.methodLink RX12 278 yX12_isTimes) (in_t6 (List.mem_of_getElem? (i := 102) (by decide +kernel))) rfl)
theorem ml_RX12_281 : Cond.methodLink RX12 281 yX12_isPlus ∈ GT := (mem_GT (w := Cond.methodLink RX12 281 yX12_isPlus) (in_t6 (List.mem_of_getElem? (i := 105) (by decide +kernel))) rfl)
theorem ml_RX12_284 : Cond.methodLink RX12 284 yX12_emit ∈ GT := (mem_GT (w := Cond.methodLink RX12 284 yX12_emit) (in_t6 (List.mem_of_getElem? (i := 91) (by decide +kernel))) rfl)
theorem ml_RX12_287 : Cond.methodLink RX12 287 yX12_opens ∈ GT := (mem_GT (w := Cond.methodLink RX12 287 yX12_opens) (in_t6 (List.mem_of_getElem? (i := 73) (by decide +kernel))) rfl)
theorem ml_RX12_290 : Cond.methodLink RX12 290 yX12_reads ∈ GT := (mem_GT (w := Cond.methodLink RX12 290 yX12_reads) (in_t6 (List.mem_of_getElem? (i := 87) (by decide +kernel))) rfl)
theorem ml_RX12_293 : Cond.methodLink RX12 293 yX12_isValue ∈ GT := (mem_GT (w := Cond.methodLink RX12 293 yX12_isValue) (in_t6 (List.mem_of_getElem? (i := 95) (by decide +kernel))) rfl)
theorem ml_RX12_296 : Cond.methodLink RX12 296 yX12_sums ∈ GT := (mem_GT (w := Cond.methodLink RX12 296 yX12_sums) (in_t6 (List.mem_of_getElem? (i := 108) (by decide +kernel))) rfl)
theorem ml_RX12_304 : Cond.methodLink RX12 304 yX12_factor ∈ GT := (mem_GT (w := Cond.methodLink RX12 304 yX12_factor) (in_t6 (List.mem_of_getElem? (i := 69) (by decide +kernel))) rfl)
theorem ml_RX12_307 : Cond.methodLink RX12 307 yX12_stays ∈ GT := (mem_GT (w := Cond.methodLink RX12 307 yX12_stays) (in_t6 (List.mem_of_getElem? (i := 98) (by decide +kernel))) rfl)
theorem ml_RX12_310 : Cond.methodLink RX12 310 yX12_value ∈ GT := (mem_GT (w := Cond.methodLink RX12 310 yX12_value) (in_t6 (List.mem_of_getElem? (i := 65) (by decide +kernel))) rfl)
theorem ml_RX12_313 : Cond.methodLink RX12 313 yX12_isSign ∈ GT := (mem_GT (w := Cond.methodLink RX12 313 yX12_isSign) (in_t6 (List.mem_of_getElem? (i := 124) (by decide +kernel))) rfl)
theorem ml_RX12_316 : Cond.methodLink RX12 316 yX12_ends ∈ GT := (mem_GT (w := Cond.methodLink RX12 316 yX12_ends) (in_t6 (List.mem_of_getElem? (i := 127) (by decide +kernel))) rfl)
theorem ml_RX12_319 : Cond.methodLink RX12 319 yX12_joins ∈ GT := (mem_GT (w := Cond.methodLink RX12 319 yX12_joins) (in_t6 (List.mem_of_getElem? (i := 135) (by decide +kernel))) rfl)
theorem ml_RX12_325 : Cond.methodLink RX12 325 yX12_pieceOfC ∈ GT := (mem_GT (w := Cond.methodLink RX12 325 yX12_pieceOfC) (in_t6 (List.mem_of_getElem? (i := 120) (by decide +kernel))) rfl)
theorem ml_RX12_328 : Cond.methodLink RX12 328 yX12_goesBehind ∈ GT := (mem_GT (w := Cond.methodLink RX12 328 yX12_goesBehind) (in_t6 (List.mem_of_getElem? (i := 131) (by decide +kernel))) rfl)
theorem ml_RX12_334 : Cond.methodLink RX12 334 yX12_condition ∈ GT := (mem_GT (w := Cond.methodLink RX12 334 yX12_condition) (in_t6 (List.mem_of_getElem? (i := 116) (by decide +kernel))) rfl)
theorem ml_RX12_339 : Cond.methodLink RX12 339 yX12_clause ∈ GT := (mem_GT (w := Cond.methodLink RX12 339 yX12_clause) (in_t6 (List.mem_of_getElem? (i := 53) (by decide +kernel))) rfl)
theorem ml_RX12_345 : Cond.methodLink RX12 345 yX12_size ∈ GT := (mem_GT (w := Cond.methodLink RX12 345 yX12_size) (in_t6 (List.mem_of_getElem? (i := 173) (by decide +kernel))) rfl)
theorem ml_RX12_355 : Cond.methodLink RX12 355 yX12_wayOf ∈ GT := (mem_GT (w := Cond.methodLink RX12 355 yX12_wayOf) (in_t6 (List.mem_of_getElem? (i := 170) (by decide +kernel))) rfl)
theorem ml_RX12_362 : Cond.methodLink RX12 362 yX12_ofCow ∈ GT := (mem_GT (w := Cond.methodLink RX12 362 yX12_ofCow) (in_t6 (List.mem_of_getElem? (i := 166) (by decide +kernel))) rfl)
theorem ml_RX12_365 : Cond.methodLink RX12 365 yX12_worked ∈ GT := (mem_GT (w := Cond.methodLink RX12 365 yX12_worked) (in_t6 (List.mem_of_getElem? (i := 159) (by decide +kernel))) rfl)
theorem ml_RX12_369 : Cond.methodLink RX12 369 yX12_does ∈ GT := (mem_GT (w := Cond.methodLink RX12 369 yX12_does) (in_t6 (List.mem_of_getElem? (i := 155) (by decide +kernel))) rfl)
theorem ml_RX12_372 : Cond.methodLink RX12 372 yX12_valueOf ∈ GT := (mem_GT (w := Cond.methodLink RX12 372 yX12_valueOf) (in_t6 (List.mem_of_getElem? (i := 162) (by decide +kernel))) rfl)
theorem ml_RX12_375 : Cond.methodLink RX12 375 yX12_works ∈ GT := (mem_GT (w := Cond.methodLink RX12 375 yX12_works) (in_t6 (List.mem_of_getElem? (i := 151) (by decide +kernel))) rfl)
theorem ml_RX12_378 : Cond.methodLink RX12 378 yX12_holds ∈ GT := (mem_GT (w := Cond.methodLink RX12 378 yX12_holds) (in_t6 (List.mem_of_getElem? (i := 147) (by decide +kernel))) rfl)
theorem ml_RX12_381 : Cond.methodLink RX12 381 yX12_tells ∈ GT := (mem_GT (w := Cond.methodLink RX12 381 yX12_tells) (in_t6 (List.mem_of_getElem? (i := 176) (by decide +kernel))) rfl)
theorem ml_RX12_384 : Cond.methodLink RX12 384 yX12_wouldEat ∈ GT := (mem_GT (w := Cond.methodLink RX12 384 yX12_wouldEat) (in_t6 (List.mem_of_getElem? (i := 143) (by decide +kernel))) rfl)
theorem ml_RX12_387 : Cond.methodLink RX12 387 yX12_choice ∈ GT := (mem_GT (w := Cond.methodLink RX12 387 yX12_choice) (in_t6 (List.mem_of_getElem? (i := 184) (by decide +kernel))) rfl)
theorem ml_RX12_398 : Cond.methodLink RX12 398 yX12_areDays ∈ GT := (mem_GT (w := Cond.methodLink RX12 398 yX12_areDays) (in_t6 (List.mem_of_getElem? (i := 192) (by decide +kernel))) rfl)
theorem ml_RX12_401 : Cond.methodLink RX12 401 yX12_dayOne ∈ GT := (mem_GT (w := Cond.methodLink RX12 401 yX12_dayOne) (in_t6 (List.mem_of_getElem? (i := 196) (by decide +kernel))) rfl)
theorem ml_RX12_404 : Cond.methodLink RX12 404 yX12_wins ∈ GT := (mem_GT (w := Cond.methodLink RX12 404 yX12_wins) (in_t6 (List.mem_of_getElem? (i := 218) (by decide +kernel))) rfl)
theorem ml_RX12_411 : Cond.methodLink RX12 411 yX12_setsAside ∈ GT := (mem_GT (w := Cond.methodLink RX12 411 yX12_setsAside) (in_t6 (List.mem_of_getElem? (i := 206) (by decide +kernel))) rfl)
theorem ml_RX12_414 : Cond.methodLink RX12 414 yX12_runs ∈ GT := (mem_GT (w := Cond.methodLink RX12 414 yX12_runs) (in_t6 (List.mem_of_getElem? (i := 210) (by decide +kernel))) rfl)
theorem ml_RX12_417 : Cond.methodLink RX12 417 yX12_winner ∈ GT := (mem_GT (w := Cond.methodLink RX12 417 yX12_winner) (in_t6 (List.mem_of_getElem? (i := 214) (by decide +kernel))) rfl)
theorem ml_RX12_420 : Cond.methodLink RX12 420 yX12_putsBack ∈ GT := (mem_GT (w := Cond.methodLink RX12 420 yX12_putsBack) (in_t6 (List.mem_of_getElem? (i := 222) (by decide +kernel))) rfl)
theorem ml_RX12_428 : Cond.methodLink RX12 428 yX12_digit ∈ GT := (mem_GT (w := Cond.methodLink RX12 428 yX12_digit) (in_t7 (List.mem_of_getElem? (i := 16) (by decide +kernel))) rfl)
theorem ml_RX12_435 : Cond.methodLink RX12 435 yX12_pence ∈ GT := (mem_GT (w := Cond.methodLink RX12 435 yX12_pence) (in_t7 (List.mem_of_getElem? (i := 9) (by decide +kernel))) rfl)
theorem ml_RX12_438 : Cond.methodLink RX12 438 yX12_spreads ∈ GT := (mem_GT (w := Cond.methodLink RX12 438 yX12_spreads) (in_t7 (List.mem_of_getElem? (i := 12) (by decide +kernel))) rfl)
theorem ml_RX12_441 : Cond.methodLink RX12 441 yX12_has ∈ GT := (mem_GT (w := Cond.methodLink RX12 441 yX12_has) (in_t7 (List.mem_of_getElem? (i := 27) (by decide +kernel))) rfl)
theorem ml_RX12_445 : Cond.methodLink RX12 445 yX12_laysVotes ∈ GT := (mem_GT (w := Cond.methodLink RX12 445 yX12_laysVotes) (in_t7 (List.mem_of_getElem? (i := 23) (by decide +kernel))) rfl)
theorem ml_RX12_448 : Cond.methodLink RX12 448 yX12_isSwing ∈ GT := (mem_GT (w := Cond.methodLink RX12 448 yX12_isSwing) (in_t7 (List.mem_of_getElem? (i := 30) (by decide +kernel))) rfl)
theorem ml_RX12_451 : Cond.methodLink RX12 451 yX12_sizeOf ∈ GT := (mem_GT (w := Cond.methodLink RX12 451 yX12_sizeOf) (in_t7 (List.mem_of_getElem? (i := 38) (by decide +kernel))) rfl)
theorem ml_RX12_454 : Cond.methodLink RX12 454 yX12_ordersOf ∈ GT := (mem_GT (w := Cond.methodLink RX12 454 yX12_ordersOf) (in_t7 (List.mem_of_getElem? (i := 41) (by decide +kernel))) rfl)
theorem ml_RX12_458 : Cond.methodLink RX12 458 yX12_divisor ∈ GT := (mem_GT (w := Cond.methodLink RX12 458 yX12_divisor) (in_t7 (List.mem_of_getElem? (i := 44) (by decide +kernel))) rfl)
theorem ml_RX12_462 : Cond.methodLink RX12 462 yX12_seatOf ∈ GT := (mem_GT (w := Cond.methodLink RX12 462 yX12_seatOf) (in_t7 (List.mem_of_getElem? (i := 51) (by decide +kernel))) rfl)
theorem ml_RX12_472 : Cond.methodLink RX12 472 yX12_byteAt ∈ GT := (mem_GT (w := Cond.methodLink RX12 472 yX12_byteAt) (in_t7 (List.mem_of_getElem? (i := 79) (by decide +kernel))) rfl)
theorem ml_RX12_475 : Cond.methodLink RX12 475 yX12_takesWords ∈ GT := (mem_GT (w := Cond.methodLink RX12 475 yX12_takesWords) (in_t7 (List.mem_of_getElem? (i := 75) (by decide +kernel))) rfl)
theorem ml_RX12_478 : Cond.methodLink RX12 478 yX12_fits ∈ GT := (mem_GT (w := Cond.methodLink RX12 478 yX12_fits) (in_t7 (List.mem_of_getElem? (i := 83) (by decide +kernel))) rfl)
theorem ml_RX12_482 : Cond.methodLink RX12 482 yX12_canJoin ∈ GT := (mem_GT (w := Cond.methodLink RX12 482 yX12_canJoin) (in_t7 (List.mem_of_getElem? (i := 95) (by decide +kernel))) rfl)
theorem ml_RX12_485 : Cond.methodLink RX12 485 yX12_joinsOne ∈ GT := (mem_GT (w := Cond.methodLink RX12 485 yX12_joinsOne) (in_t7 (List.mem_of_getElem? (i := 91) (by decide +kernel))) rfl)
theorem ml_RX12_490 : Cond.methodLink RX12 490 yX12_wanders ∈ GT := (mem_GT (w := Cond.methodLink RX12 490 yX12_wanders) (in_t7 (List.mem_of_getElem? (i := 108) (by decide +kernel))) rfl)
theorem ml_RX12_496 : Cond.methodLink RX12 496 yX12_standing ∈ GT := (mem_GT (w := Cond.methodLink RX12 496 yX12_standing) (in_t7 (List.mem_of_getElem? (i := 116) (by decide +kernel))) rfl)
theorem ml_RX12_501 : Cond.methodLink RX12 501 yX12_numberAt ∈ GT := (mem_GT (w := Cond.methodLink RX12 501 yX12_numberAt) (in_t7 (List.mem_of_getElem? (i := 129) (by decide +kernel))) rfl)
theorem ml_RJ0_335 : Cond.methodLink RJ0 335 yJ0_coder_7d493 ∈ GT := (mem_GT (w := Cond.methodLink RJ0 335 yJ0_coder_7d493) (in_t3 (List.mem_of_getElem? (i := 60) (by decide +kernel))) rfl)
theorem ml_RJ0_492 : Cond.methodLink RJ0 492 yJ0_isLatin1_aae02 ∈ GT := (mem_GT (w := Cond.methodLink RJ0 492 yJ0_isLatin1_aae02) (in_t3 (List.mem_of_getElem? (i := 50) (by decide +kernel))) rfl)
theorem ml_RJ0_505 : Cond.methodLink RJ0 505 yJ0_length_8abf5 ∈ GT := (mem_GT (w := Cond.methodLink RJ0 505 yJ0_length_8abf5) (in_t3 (List.mem_of_getElem? (i := 56) (by decide +kernel))) rfl)
theorem ml_RJ0_633 : Cond.methodLink RJ0 633 yJ0_indexOf_7cf53 ∈ GT := (mem_GT (w := Cond.methodLink RJ0 633 yJ0_indexOf_7cf53) (in_t3 (List.mem_of_getElem? (i := 46) (by decide +kernel))) rfl)
theorem ml_RJ0_637 : Cond.methodLink RJ0 637 yJ1_indexOf_4cfef ∈ GT := (mem_GT (w := Cond.methodLink RJ0 637 yJ1_indexOf_4cfef) (in_t3 (List.mem_of_getElem? (i := 64) (by decide +kernel))) rfl)
theorem ml_RJ1_38 : Cond.methodLink RJ1 38 Lib.Math.min.name ∈ GT := (mem_GT (w := Cond.methodLink RJ1 38 Lib.Math.min.name) (in_t3 (List.mem_of_getElem? (i := 73) (by decide +kernel))) rfl)
theorem ml_RJ1_88 : Cond.methodLink RJ1 88 yJ1_canEncode_9a6ad ∈ GT := (mem_GT (w := Cond.methodLink RJ1 88 yJ1_canEncode_9a6ad) (in_t3 (List.mem_of_getElem? (i := 67) (by decide +kernel))) rfl)
theorem ml_RJ1_92 : Cond.methodLink RJ1 92 Lib.Math.max.name ∈ GT := (mem_GT (w := Cond.methodLink RJ1 92 Lib.Math.max.name) (in_t3 (List.mem_of_getElem? (i := 70) (by decide +kernel))) rfl)
theorem ml_RJ1_95 : Cond.methodLink RJ1 95 yJ1_indexOfChar_4cfef ∈ GT := (mem_GT (w := Cond.methodLink RJ1 95 yJ1_indexOfChar_4cfef) (in_t3 (List.mem_of_getElem? (i := 76) (by decide +kernel))) rfl)
theorem nin_0 : ∀ w ∈ u_ws RX0 TX0 4, w ∈ GT := fun w hw => mem_GT ((by decide +kernel : ∀ w ∈ u_ws RX0 TX0 4, w ∈ lw_tbl) w hw) ((by decide +kernel : ∀ w ∈ u_ws RX0 TX0 4, goodWord w = true) w hw)
theorem ft_0 : Fty 0 tyX0 := ⟨tyX0_ok, nmX0⟩
theorem nin_1 : ∀ w ∈ u_ws RX1 TX1 6, w ∈ GT := fun w hw => mem_GT ((by decide +kernel : ∀ w ∈ u_ws RX1 TX1 6, w ∈ lw_tbl) w hw) ((by decide +kernel : ∀ w ∈ u_ws RX1 TX1 6, goodWord w = true) w hw)
theorem ft_1 : Fty 1 tyX1 := ⟨tyX1_ok, nmX1⟩
theorem nin_2 : ∀ w ∈ u_ws RX2 TX2 1, w ∈ GT := fun w hw => mem_GT ((by decide +kernel : ∀ w ∈ u_ws RX2 TX2 1, w ∈ lw_tbl) w hw) ((by decide +kernel : ∀ w ∈ u_ws RX2 TX2 1, goodWord w = true) w hw)
theorem ft_2 : Fty 2 tyX2 := ⟨tyX2_ok, nmX2⟩
theorem nin_3 : ∀ w ∈ u_ws RX3 TX3 13, w ∈ GT := fun w hw => mem_GT ((by decide +kernel : ∀ w ∈ u_ws RX3 TX3 13, w ∈ lw_tbl) w hw) ((by decide +kernel : ∀ w ∈ u_ws RX3 TX3 13, goodWord w = true) w hw)
theorem ft_3 : Fty 3 tyX3 := ⟨tyX3_ok, nmX3⟩
theorem nin_4 : ∀ w ∈ u_ws RX4 TX4 5, w ∈ GT := fun w hw => mem_GT ((by decide +kernel : ∀ w ∈ u_ws RX4 TX4 5, w ∈ lw_tbl) w hw) ((by decide +kernel : ∀ w ∈ u_ws RX4 TX4 5, goodWord w = true) w hw)
theorem ft_4 : Fty 4 tyX4 := ⟨tyX4_ok, nmX4⟩
theorem nin_5 : ∀ w ∈ u_ws RX5 TX5 12, w ∈ GT := fun w hw => mem_GT ((by decide +kernel : ∀ w ∈ u_ws RX5 TX5 12, w ∈ lw_tbl) w hw) ((by decide +kernel : ∀ w ∈ u_ws RX5 TX5 12, goodWord w = true) w hw)
theorem ft_5 : Fty 5 tyX5 := ⟨tyX5_ok, nmX5⟩
theorem nin_6 : ∀ w ∈ u_ws RX6 TX6 3, w ∈ GT := fun w hw => mem_GT ((by decide +kernel : ∀ w ∈ u_ws RX6 TX6 3, w ∈ lw_tbl) w hw) ((by decide +kernel : ∀ w ∈ u_ws RX6 TX6 3, goodWord w = true) w hw)
theorem ft_6 : Fty 6 tyX6 := ⟨tyX6_ok, nmX6⟩
theorem nin_7 : ∀ w ∈ u_ws RX7 TX7 9, w ∈ GT := fun w hw => mem_GT ((by decide +kernel : ∀ w ∈ u_ws RX7 TX7 9, w ∈ lw_tbl) w hw) ((by decide +kernel : ∀ w ∈ u_ws RX7 TX7 9, goodWord w = true) w hw)
theorem ft_7 : Fty 7 tyX7 := ⟨tyX7_ok, nmX7⟩
theorem nin_8 : ∀ w ∈ u_ws RX9 TX9 2, w ∈ GT := fun w hw => mem_GT ((by decide +kernel : ∀ w ∈ u_ws RX9 TX9 2, w ∈ lw_tbl) w hw) ((by decide +kernel : ∀ w ∈ u_ws RX9 TX9 2, goodWord w = true) w hw)
theorem ft_8 : Fty 8 tyX9 := ⟨tyX9_ok, nmX9⟩
theorem nin_9 : ∀ w ∈ u_ws RX10 TX10 9, w ∈ GT := fun w hw => mem_GT ((by decide +kernel : ∀ w ∈ u_ws RX10 TX10 9, w ∈ lw_tbl) w hw) ((by decide +kernel : ∀ w ∈ u_ws RX10 TX10 9, goodWord w = true) w hw)
theorem ft_9 : Fty 9 tyX10 := ⟨tyX10_ok, nmX10⟩
theorem nin_10 : ∀ w ∈ u_ws RX11 TX11 12, w ∈ GT := fun w hw => mem_GT ((by decide +kernel : ∀ w ∈ u_ws RX11 TX11 12, w ∈ lw_tbl) w hw) ((by decide +kernel : ∀ w ∈ u_ws RX11 TX11 12, goodWord w = true) w hw)
theorem ft_10 : Fty 10 tyX11 := ⟨tyX11_ok, nmX11⟩
theorem nin_11 : ∀ w ∈ u_ws RX12 TX12 78, w ∈ GT := fun w hw => mem_GT ((by decide +kernel : ∀ w ∈ u_ws RX12 TX12 78, w ∈ lw_tbl) w hw) ((by decide +kernel : ∀ w ∈ u_ws RX12 TX12 78, goodWord w = true) w hw)
theorem ft_11 : Fty 11 tyX12 := ⟨tyX12_ok, nmX12⟩
theorem fd_0_0 : Fdk 0 0 2 := ⟨by decide, rfl, nin_0, by decide, by decide +kernel⟩
theorem fd_0_1 : Fdk 0 1 2 := ⟨by decide, rfl, nin_0, by decide, by decide +kernel⟩
theorem fd_0_2 : Fdk 0 2 2 := ⟨by decide, rfl, nin_0, by decide, by decide +kernel⟩
theorem fd_0_3 : Fdk 0 3 0 := ⟨by decide, rfl, nin_0, by decide, by decide +kernel⟩
theorem fd_1_0 : Fdk 1 0 0 := ⟨by decide, rfl, nin_1, by decide, by decide +kernel⟩
theorem fd_1_1 : Fdk 1 1 0 := ⟨by decide, rfl, nin_1, by decide, by decide +kernel⟩
theorem fd_1_2 : Fdk 1 2 0 := ⟨by decide, rfl, nin_1, by decide, by decide +kernel⟩
theorem fd_1_3 : Fdk 1 3 0 := ⟨by decide, rfl, nin_1, by decide, by decide +kernel⟩
theorem fd_1_4 : Fdk 1 4 0 := ⟨by decide, rfl, nin_1, by decide, by decide +kernel⟩
theorem fd_1_5 : Fdk 1 5 2 := ⟨by decide, rfl, nin_1, by decide, by decide +kernel⟩
theorem fd_2_0 : Fdk 2 0 2 := ⟨by decide, rfl, nin_2, by decide, by decide +kernel⟩
theorem fd_3_0 : Fdk 3 0 2 := ⟨by decide, rfl, nin_3, by decide, by decide +kernel⟩
theorem fd_3_1 : Fdk 3 1 2 := ⟨by decide, rfl, nin_3, by decide, by decide +kernel⟩
theorem fd_3_2 : Fdk 3 2 2 := ⟨by decide, rfl, nin_3, by decide, by decide +kernel⟩
theorem fd_3_3 : Fdk 3 3 2 := ⟨by decide, rfl, nin_3, by decide, by decide +kernel⟩
theorem fd_3_4 : Fdk 3 4 2 := ⟨by decide, rfl, nin_3, by decide, by decide +kernel⟩
theorem fd_3_5 : Fdk 3 5 2 := ⟨by decide, rfl, nin_3, by decide, by decide +kernel⟩
theorem fd_3_6 : Fdk 3 6 2 := ⟨by decide, rfl, nin_3, by decide, by decide +kernel⟩
theorem fd_3_7 : Fdk 3 7 2 := ⟨by decide, rfl, nin_3, by decide, by decide +kernel⟩
theorem fd_3_8 : Fdk 3 8 2 := ⟨by decide, rfl, nin_3, by decide, by decide +kernel⟩
theorem fd_3_9 : Fdk 3 9 0 := ⟨by decide, rfl, nin_3, by decide, by decide +kernel⟩
theorem fd_3_10 : Fdk 3 10 0 := ⟨by decide, rfl, nin_3, by decide, by decide +kernel⟩
theorem fd_3_11 : Fdk 3 11 0 := ⟨by decide, rfl, nin_3, by decide, by decide +kernel⟩
theorem fd_3_12 : Fdk 3 12 0 := ⟨by decide, rfl, nin_3, by decide, by decide +kernel⟩
theorem fd_4_0 : Fdk 4 0 2 := ⟨by decide, rfl, nin_4, by decide, by decide +kernel⟩
theorem fd_4_1 : Fdk 4 1 2 := ⟨by decide, rfl, nin_4, by decide, by decide +kernel⟩
theorem fd_4_2 : Fdk 4 2 0 := ⟨by decide, rfl, nin_4, by decide, by decide +kernel⟩
theorem fd_4_3 : Fdk 4 3 0 := ⟨by decide, rfl, nin_4, by decide, by decide +kernel⟩
theorem fd_4_4 : Fdk 4 4 0 := ⟨by decide, rfl, nin_4, by decide, by decide +kernel⟩
theorem fd_5_0 : Fdk 5 0 2 := ⟨by decide, rfl, nin_5, by decide, by decide +kernel⟩
theorem fd_5_1 : Fdk 5 1 2 := ⟨by decide, rfl, nin_5, by decide, by decide +kernel⟩
theorem fd_5_2 : Fdk 5 2 2 := ⟨by decide, rfl, nin_5, by decide, by decide +kernel⟩
theorem fd_5_3 : Fdk 5 3 2 := ⟨by decide, rfl, nin_5, by decide, by decide +kernel⟩
theorem fd_5_4 : Fdk 5 4 2 := ⟨by decide, rfl, nin_5, by decide, by decide +kernel⟩
theorem fd_5_5 : Fdk 5 5 2 := ⟨by decide, rfl, nin_5, by decide, by decide +kernel⟩
theorem fd_5_6 : Fdk 5 6 0 := ⟨by decide, rfl, nin_5, by decide, by decide +kernel⟩
theorem fd_5_7 : Fdk 5 7 0 := ⟨by decide, rfl, nin_5, by decide, by decide +kernel⟩
theorem fd_5_8 : Fdk 5 8 0 := ⟨by decide, rfl, nin_5, by decide, by decide +kernel⟩
theorem fd_5_9 : Fdk 5 9 0 := ⟨by decide, rfl, nin_5, by decide, by decide +kernel⟩
theorem fd_5_10 : Fdk 5 10 0 := ⟨by decide, rfl, nin_5, by decide, by decide +kernel⟩
theorem fd_5_11 : Fdk 5 11 0 := ⟨by decide, rfl, nin_5, by decide, by decide +kernel⟩
theorem fd_6_0 : Fdk 6 0 2 := ⟨by decide, rfl, nin_6, by decide, by decide +kernel⟩
theorem fd_6_1 : Fdk 6 1 0 := ⟨by decide, rfl, nin_6, by decide, by decide +kernel⟩
theorem fd_6_2 : Fdk 6 2 1 := ⟨by decide, rfl, nin_6, by decide, by decide +kernel⟩
theorem fd_7_0 : Fdk 7 0 0 := ⟨by decide, rfl, nin_7, by decide, by decide +kernel⟩
theorem fd_7_1 : Fdk 7 1 0 := ⟨by decide, rfl, nin_7, by decide, by decide +kernel⟩
theorem fd_7_2 : Fdk 7 2 0 := ⟨by decide, rfl, nin_7, by decide, by decide +kernel⟩
theorem fd_7_3 : Fdk 7 3 0 := ⟨by decide, rfl, nin_7, by decide, by decide +kernel⟩
theorem fd_7_4 : Fdk 7 4 0 := ⟨by decide, rfl, nin_7, by decide, by decide +kernel⟩
theorem fd_7_5 : Fdk 7 5 0 := ⟨by decide, rfl, nin_7, by decide, by decide +kernel⟩
theorem fd_7_6 : Fdk 7 6 0 := ⟨by decide, rfl, nin_7, by decide, by decide +kernel⟩
theorem fd_7_7 : Fdk 7 7 0 := ⟨by decide, rfl, nin_7, by decide, by decide +kernel⟩
theorem fd_7_8 : Fdk 7 8 2 := ⟨by decide, rfl, nin_7, by decide, by decide +kernel⟩
theorem fd_8_0 : Fdk 8 0 2 := ⟨by decide, rfl, nin_8, by decide, by decide +kernel⟩
theorem fd_8_1 : Fdk 8 1 0 := ⟨by decide, rfl, nin_8, by decide, by decide +kernel⟩
theorem fd_9_0 : Fdk 9 0 2 := ⟨by decide, rfl, nin_9, by decide, by decide +kernel⟩
theorem fd_9_1 : Fdk 9 1 2 := ⟨by decide, rfl, nin_9, by decide, by decide +kernel⟩
theorem fd_9_2 : Fdk 9 2 2 := ⟨by decide, rfl, nin_9, by decide, by decide +kernel⟩
theorem fd_9_3 : Fdk 9 3 2 := ⟨by decide, rfl, nin_9, by decide, by decide +kernel⟩
theorem fd_9_4 : Fdk 9 4 0 := ⟨by decide, rfl, nin_9, by decide, by decide +kernel⟩
theorem fd_9_5 : Fdk 9 5 0 := ⟨by decide, rfl, nin_9, by decide, by decide +kernel⟩
theorem fd_9_6 : Fdk 9 6 0 := ⟨by decide, rfl, nin_9, by decide, by decide +kernel⟩
theorem fd_9_7 : Fdk 9 7 0 := ⟨by decide, rfl, nin_9, by decide, by decide +kernel⟩
theorem fd_9_8 : Fdk 9 8 0 := ⟨by decide, rfl, nin_9, by decide, by decide +kernel⟩
theorem fd_10_0 : Fdk 10 0 2 := ⟨by decide, rfl, nin_10, by decide, by decide +kernel⟩
theorem fd_10_1 : Fdk 10 1 2 := ⟨by decide, rfl, nin_10, by decide, by decide +kernel⟩
theorem fd_10_2 : Fdk 10 2 2 := ⟨by decide, rfl, nin_10, by decide, by decide +kernel⟩
theorem fd_10_3 : Fdk 10 3 2 := ⟨by decide, rfl, nin_10, by decide, by decide +kernel⟩
theorem fd_10_4 : Fdk 10 4 2 := ⟨by decide, rfl, nin_10, by decide, by decide +kernel⟩
theorem fd_10_5 : Fdk 10 5 2 := ⟨by decide, rfl, nin_10, by decide, by decide +kernel⟩
theorem fd_10_6 : Fdk 10 6 2 := ⟨by decide, rfl, nin_10, by decide, by decide +kernel⟩
theorem fd_10_7 : Fdk 10 7 2 := ⟨by decide, rfl, nin_10, by decide, by decide +kernel⟩
theorem fd_10_8 : Fdk 10 8 2 := ⟨by decide, rfl, nin_10, by decide, by decide +kernel⟩
theorem fd_10_9 : Fdk 10 9 2 := ⟨by decide, rfl, nin_10, by decide, by decide +kernel⟩
theorem fd_10_10 : Fdk 10 10 2 := ⟨by decide, rfl, nin_10, by decide, by decide +kernel⟩
theorem fd_10_11 : Fdk 10 11 0 := ⟨by decide, rfl, nin_10, by decide, by decide +kernel⟩
theorem fd_11_0 : Fdk 11 0 2 := ⟨by decide, rfl, nin_11, by decide, by decide +kernel⟩
theorem fd_11_1 : Fdk 11 1 0 := ⟨by decide, rfl, nin_11, by decide, by decide +kernel⟩
theorem fd_11_2 : Fdk 11 2 0 := ⟨by decide, rfl, nin_11, by decide, by decide +kernel⟩
theorem fd_11_3 : Fdk 11 3 0 := ⟨by decide, rfl, nin_11, by decide, by decide +kernel⟩
theorem fd_11_4 : Fdk 11 4 0 := ⟨by decide, rfl, nin_11, by decide, by decide +kernel⟩
theorem fd_11_5 : Fdk 11 5 0 := ⟨by decide, rfl, nin_11, by decide, by decide +kernel⟩
theorem fd_11_6 : Fdk 11 6 0 := ⟨by decide, rfl, nin_11, by decide, by decide +kernel⟩
theorem fd_11_7 : Fdk 11 7 0 := ⟨by decide, rfl, nin_11, by decide, by decide +kernel⟩
theorem fd_11_8 : Fdk 11 8 2 := ⟨by decide, rfl, nin_11, by decide, by decide +kernel⟩
theorem fd_11_9 : Fdk 11 9 2 := ⟨by decide, rfl, nin_11, by decide, by decide +kernel⟩
theorem fd_11_10 : Fdk 11 10 2 := ⟨by decide, rfl, nin_11, by decide, by decide +kernel⟩
theorem fd_11_11 : Fdk 11 11 2 := ⟨by decide, rfl, nin_11, by decide, by decide +kernel⟩
theorem fd_11_12 : Fdk 11 12 2 := ⟨by decide, rfl, nin_11, by decide, by decide +kernel⟩
theorem fd_11_13 : Fdk 11 13 2 := ⟨by decide, rfl, nin_11, by decide, by decide +kernel⟩
theorem fd_11_14 : Fdk 11 14 2 := ⟨by decide, rfl, nin_11, by decide, by decide +kernel⟩
theorem fd_11_15 : Fdk 11 15 2 := ⟨by decide, rfl, nin_11, by decide, by decide +kernel⟩
theorem fd_11_16 : Fdk 11 16 2 := ⟨by decide, rfl, nin_11, by decide, by decide +kernel⟩
theorem fd_11_17 : Fdk 11 17 2 := ⟨by decide, rfl, nin_11, by decide, by decide +kernel⟩
theorem fd_11_18 : Fdk 11 18 2 := ⟨by decide, rfl, nin_11, by decide, by decide +kernel⟩
theorem fd_11_19 : Fdk 11 19 2 := ⟨by decide, rfl, nin_11, by decide, by decide +kernel⟩
theorem fd_11_20 : Fdk 11 20 2 := ⟨by decide, rfl, nin_11, by decide, by decide +kernel⟩
theorem fd_11_21 : Fdk 11 21 2 := ⟨by decide, rfl, nin_11, by decide, by decide +kernel⟩
theorem fd_11_22 : Fdk 11 22 0 := ⟨by decide, rfl, nin_11, by decide, by decide +kernel⟩
theorem fd_11_23 : Fdk 11 23 2 := ⟨by decide, rfl, nin_11, by decide, by decide +kernel⟩
theorem fd_11_24 : Fdk 11 24 2 := ⟨by decide, rfl, nin_11, by decide, by decide +kernel⟩
theorem fd_11_25 : Fdk 11 25 2 := ⟨by decide, rfl, nin_11, by decide, by decide +kernel⟩
theorem fd_11_26 : Fdk 11 26 2 := ⟨by decide, rfl, nin_11, by decide, by decide +kernel⟩
theorem fd_11_27 : Fdk 11 27 2 := ⟨by decide, rfl, nin_11, by decide, by decide +kernel⟩
theorem fd_11_28 : Fdk 11 28 2 := ⟨by decide, rfl, nin_11, by decide, by decide +kernel⟩
theorem fd_11_29 : Fdk 11 29 2 := ⟨by decide, rfl, nin_11, by decide, by decide +kernel⟩
theorem fd_11_30 : Fdk 11 30 2 := ⟨by decide, rfl, nin_11, by decide, by decide +kernel⟩
theorem fd_11_31 : Fdk 11 31 2 := ⟨by decide, rfl, nin_11, by decide, by decide +kernel⟩
theorem fd_11_32 : Fdk 11 32 2 := ⟨by decide, rfl, nin_11, by decide, by decide +kernel⟩
theorem fd_11_33 : Fdk 11 33 2 := ⟨by decide, rfl, nin_11, by decide, by decide +kernel⟩
theorem fd_11_34 : Fdk 11 34 2 := ⟨by decide, rfl, nin_11, by decide, by decide +kernel⟩
theorem fd_11_35 : Fdk 11 35 0 := ⟨by decide, rfl, nin_11, by decide, by decide +kernel⟩
theorem fd_11_36 : Fdk 11 36 0 := ⟨by decide, rfl, nin_11, by decide, by decide +kernel⟩
theorem fd_11_37 : Fdk 11 37 0 := ⟨by decide, rfl, nin_11, by decide, by decide +kernel⟩
theorem fd_11_38 : Fdk 11 38 0 := ⟨by decide, rfl, nin_11, by decide, by decide +kernel⟩
theorem fd_11_39 : Fdk 11 39 0 := ⟨by decide, rfl, nin_11, by decide, by decide +kernel⟩
theorem fd_11_40 : Fdk 11 40 0 := ⟨by decide, rfl, nin_11, by decide, by decide +kernel⟩
theorem fd_11_41 : Fdk 11 41 0 := ⟨by decide, rfl, nin_11, by decide, by decide +kernel⟩
theorem fd_11_42 : Fdk 11 42 0 := ⟨by decide, rfl, nin_11, by decide, by decide +kernel⟩
theorem fd_11_43 : Fdk 11 43 0 := ⟨by decide, rfl, nin_11, by decide, by decide +kernel⟩
theorem fd_11_44 : Fdk 11 44 2 := ⟨by decide, rfl, nin_11, by decide, by decide +kernel⟩
theorem fd_11_45 : Fdk 11 45 0 := ⟨by decide, rfl, nin_11, by decide, by decide +kernel⟩
theorem fd_11_46 : Fdk 11 46 0 := ⟨by decide, rfl, nin_11, by decide, by decide +kernel⟩
theorem fd_11_47 : Fdk 11 47 2 := ⟨by decide, rfl, nin_11, by decide, by decide +kernel⟩
theorem fd_11_48 : Fdk 11 48 2 := ⟨by decide, rfl, nin_11, by decide, by decide +kernel⟩
theorem fd_11_49 : Fdk 11 49 2 := ⟨by decide, rfl, nin_11, by decide, by decide +kernel⟩
theorem fd_11_50 : Fdk 11 50 0 := ⟨by decide, rfl, nin_11, by decide, by decide +kernel⟩
theorem fd_11_51 : Fdk 11 51 0 := ⟨by decide, rfl, nin_11, by decide, by decide +kernel⟩
theorem fd_11_52 : Fdk 11 52 2 := ⟨by decide, rfl, nin_11, by decide, by decide +kernel⟩
theorem fd_11_53 : Fdk 11 53 2 := ⟨by decide, rfl, nin_11, by decide, by decide +kernel⟩
theorem fd_11_54 : Fdk 11 54 2 := ⟨by decide, rfl, nin_11, by decide, by decide +kernel⟩
theorem fd_11_55 : Fdk 11 55 2 := ⟨by decide, rfl, nin_11, by decide, by decide +kernel⟩
theorem fd_11_56 : Fdk 11 56 2 := ⟨by decide, rfl, nin_11, by decide, by decide +kernel⟩
theorem fd_11_57 : Fdk 11 57 2 := ⟨by decide, rfl, nin_11, by decide, by decide +kernel⟩
theorem fd_11_58 : Fdk 11 58 2 := ⟨by decide, rfl, nin_11, by decide, by decide +kernel⟩
theorem fd_11_59 : Fdk 11 59 2 := ⟨by decide, rfl, nin_11, by decide, by decide +kernel⟩
theorem fd_11_60 : Fdk 11 60 2 := ⟨by decide, rfl, nin_11, by decide, by decide +kernel⟩
theorem fd_11_61 : Fdk 11 61 2 := ⟨by decide, rfl, nin_11, by decide, by decide +kernel⟩
theorem fd_11_62 : Fdk 11 62 2 := ⟨by decide, rfl, nin_11, by decide, by decide +kernel⟩
theorem fd_11_63 : Fdk 11 63 2 := ⟨by decide, rfl, nin_11, by decide, by decide +kernel⟩
theorem fd_11_64 : Fdk 11 64 2 := ⟨by decide, rfl, nin_11, by decide, by decide +kernel⟩
theorem fd_11_65 : Fdk 11 65 2 := ⟨by decide, rfl, nin_11, by decide, by decide +kernel⟩
theorem fd_11_66 : Fdk 11 66 2 := ⟨by decide, rfl, nin_11, by decide, by decide +kernel⟩
theorem fd_11_67 : Fdk 11 67 2 := ⟨by decide, rfl, nin_11, by decide, by decide +kernel⟩
theorem fd_11_68 : Fdk 11 68 2 := ⟨by decide, rfl, nin_11, by decide, by decide +kernel⟩
theorem fd_11_69 : Fdk 11 69 0 := ⟨by decide, rfl, nin_11, by decide, by decide +kernel⟩
theorem fd_11_70 : Fdk 11 70 2 := ⟨by decide, rfl, nin_11, by decide, by decide +kernel⟩
theorem fd_11_71 : Fdk 11 71 2 := ⟨by decide, rfl, nin_11, by decide, by decide +kernel⟩
theorem fd_11_72 : Fdk 11 72 2 := ⟨by decide, rfl, nin_11, by decide, by decide +kernel⟩
theorem fd_11_73 : Fdk 11 73 2 := ⟨by decide, rfl, nin_11, by decide, by decide +kernel⟩
theorem fd_11_74 : Fdk 11 74 2 := ⟨by decide, rfl, nin_11, by decide, by decide +kernel⟩
theorem fd_11_75 : Fdk 11 75 2 := ⟨by decide, rfl, nin_11, by decide, by decide +kernel⟩
theorem fd_11_76 : Fdk 11 76 2 := ⟨by decide, rfl, nin_11, by decide, by decide +kernel⟩
theorem fd_11_77 : Fdk 11 77 0 := ⟨by decide, rfl, nin_11, by decide, by decide +kernel⟩
theorem fl_RX11_10 : Flk RX11 10 10 0 := .inl (mem_GT (w := Cond.fieldLink RX11 10 "HayVotes" "now" "LHayVotes$Meadow;") (in_t2 (List.mem_of_getElem? (i := 132) (by decide +kernel))) rfl)
theorem flg_RX11_10 : Cond.fieldLink RX11 10 "HayVotes" "now" "LHayVotes$Meadow;" ∈ GT := (mem_GT (w := Cond.fieldLink RX11 10 "HayVotes" "now" "LHayVotes$Meadow;") (in_t2 (List.mem_of_getElem? (i := 132) (by decide +kernel))) rfl)
theorem fl_RX11_16 : Flk RX11 16 10 1 := .inl (mem_GT (w := Cond.fieldLink RX11 16 "HayVotes" "kept" "LHayVotes$Meadow;") (in_t2 (List.mem_of_getElem? (i := 133) (by decide +kernel))) rfl)
theorem flg_RX11_16 : Cond.fieldLink RX11 16 "HayVotes" "kept" "LHayVotes$Meadow;" ∈ GT := (mem_GT (w := Cond.fieldLink RX11 16 "HayVotes" "kept" "LHayVotes$Meadow;") (in_t2 (List.mem_of_getElem? (i := 133) (by decide +kernel))) rfl)
theorem fl_RX11_19 : Flk RX11 19 10 2 := .inl (mem_GT (w := Cond.fieldLink RX11 19 "HayVotes" "trial" "LHayVotes$Meadow;") (in_t2 (List.mem_of_getElem? (i := 134) (by decide +kernel))) rfl)
theorem flg_RX11_19 : Cond.fieldLink RX11 19 "HayVotes" "trial" "LHayVotes$Meadow;" ∈ GT := (mem_GT (w := Cond.fieldLink RX11 19 "HayVotes" "trial" "LHayVotes$Meadow;") (in_t2 (List.mem_of_getElem? (i := 134) (by decide +kernel))) rfl)
theorem fl_RX11_25 : Flk RX11 25 10 3 := .inl (mem_GT (w := Cond.fieldLink RX11 25 "HayVotes" "tape" "LHayVotes$Tape;") (in_t2 (List.mem_of_getElem? (i := 135) (by decide +kernel))) rfl)
theorem flg_RX11_25 : Cond.fieldLink RX11 25 "HayVotes" "tape" "LHayVotes$Tape;" ∈ GT := (mem_GT (w := Cond.fieldLink RX11 25 "HayVotes" "tape" "LHayVotes$Tape;") (in_t2 (List.mem_of_getElem? (i := 135) (by decide +kernel))) rfl)
theorem fl_RX11_34 : Flk RX11 34 10 4 := .inl (mem_GT (w := Cond.fieldLink RX11 34 "HayVotes" "reader" "LHayVotes$LawReader;") (in_t2 (List.mem_of_getElem? (i := 136) (by decide +kernel))) rfl)
theorem flg_RX11_34 : Cond.fieldLink RX11 34 "HayVotes" "reader" "LHayVotes$LawReader;" ∈ GT := (mem_GT (w := Cond.fieldLink RX11 34 "HayVotes" "reader" "LHayVotes$LawReader;") (in_t2 (List.mem_of_getElem? (i := 136) (by decide +kernel))) rfl)
theorem fl_RX11_43 : Flk RX11 43 10 5 := .inl (mem_GT (w := Cond.fieldLink RX11 43 "HayVotes" "search" "LHayVotes$Campaign;") (in_t2 (List.mem_of_getElem? (i := 137) (by decide +kernel))) rfl)
theorem flg_RX11_43 : Cond.fieldLink RX11 43 "HayVotes" "search" "LHayVotes$Campaign;" ∈ GT := (mem_GT (w := Cond.fieldLink RX11 43 "HayVotes" "search" "LHayVotes$Campaign;") (in_t2 (List.mem_of_getElem? (i := 137) (by decide +kernel))) rfl)
theorem fl_RX11_50 : Flk RX11 50 10 6 := .inl (mem_GT (w := Cond.fieldLink RX11 50 "HayVotes" "seen" "LHayVotes$Words;") (in_t2 (List.mem_of_getElem? (i := 138) (by decide +kernel))) rfl)
theorem flg_RX11_50 : Cond.fieldLink RX11 50 "HayVotes" "seen" "LHayVotes$Words;" ∈ GT := (mem_GT (w := Cond.fieldLink RX11 50 "HayVotes" "seen" "LHayVotes$Words;") (in_t2 (List.mem_of_getElem? (i := 138) (by decide +kernel))) rfl)
theorem fl_RX11_57 : Flk RX11 57 10 7 := .inl (mem_GT (w := Cond.fieldLink RX11 57 "HayVotes" "districts" "LHayVotes$Districts;") (in_t2 (List.mem_of_getElem? (i := 139) (by decide +kernel))) rfl)
theorem flg_RX11_57 : Cond.fieldLink RX11 57 "HayVotes" "districts" "LHayVotes$Districts;" ∈ GT := (mem_GT (w := Cond.fieldLink RX11 57 "HayVotes" "districts" "LHayVotes$Districts;") (in_t2 (List.mem_of_getElem? (i := 139) (by decide +kernel))) rfl)
theorem fl_RX11_64 : Flk RX11 64 10 8 := .inl (mem_GT (w := Cond.fieldLink RX11 64 "HayVotes" "odds" "LHayVotes$Odds;") (in_t2 (List.mem_of_getElem? (i := 140) (by decide +kernel))) rfl)
theorem flg_RX11_64 : Cond.fieldLink RX11 64 "HayVotes" "odds" "LHayVotes$Odds;" ∈ GT := (mem_GT (w := Cond.fieldLink RX11 64 "HayVotes" "odds" "LHayVotes$Odds;") (in_t2 (List.mem_of_getElem? (i := 140) (by decide +kernel))) rfl)
theorem fl_RX11_71 : Flk RX11 71 10 9 := .inl (mem_GT (w := Cond.fieldLink RX11 71 "HayVotes" "law" "LHayVotes$Law;") (in_t2 (List.mem_of_getElem? (i := 141) (by decide +kernel))) rfl)
theorem fl_RX11_75 : Flk RX11 75 10 10 := .inl (mem_GT (w := Cond.fieldLink RX11 75 "HayVotes" "draft" "LHayVotes$Law;") (in_t2 (List.mem_of_getElem? (i := 142) (by decide +kernel))) rfl)
theorem fl_RX11_78 : Flk RX11 78 10 11 := .inl (mem_GT (w := Cond.fieldLink RX11 78 "HayVotes" "isKept" "Z") (in_t2 (List.mem_of_getElem? (i := 143) (by decide +kernel))) rfl)
theorem fl_RX11_94 : Flk RX11 94 5 6 := .inr ⟨"HayVotes", (mem_NW (w := Cond.fieldLinkNest RX11 94 "HayVotes$Meadow" "stackCount" "I" "HayVotes") (in_t1 (List.mem_of_getElem? (i := 159) (by decide +kernel))) rfl)⟩
theorem fl_RX11_101 : Flk RX11 101 5 0 := .inr ⟨"HayVotes", (mem_NW (w := Cond.fieldLinkNest RX11 101 "HayVotes$Meadow" "stacks" "[LHayVotes$Stack;" "HayVotes") (in_t1 (List.mem_of_getElem? (i := 143) (by decide +kernel))) rfl)⟩
theorem fl_RX11_111 : Flk RX11 111 5 7 := .inr ⟨"HayVotes", (mem_NW (w := Cond.fieldLinkNest RX11 111 "HayVotes$Meadow" "cowCount" "I" "HayVotes") (in_t1 (List.mem_of_getElem? (i := 165) (by decide +kernel))) rfl)⟩
theorem fl_RX11_114 : Flk RX11 114 5 1 := .inr ⟨"HayVotes", (mem_NW (w := Cond.fieldLinkNest RX11 114 "HayVotes$Meadow" "cows" "[LHayVotes$Cow;" "HayVotes") (in_t1 (List.mem_of_getElem? (i := 149) (by decide +kernel))) rfl)⟩
theorem fl_RX11_127 : Flk RX11 127 1 5 := .inr ⟨"HayVotes", (mem_NW (w := Cond.fieldLinkNest RX11 127 "HayVotes$Cow" "tastes" "[I" "HayVotes") (in_t1 (List.mem_of_getElem? (i := 126) (by decide +kernel))) rfl)⟩
theorem fl_RX11_138 : Flk RX11 138 8 1 := .inr ⟨"HayVotes", (mem_NW (w := Cond.fieldLinkNest RX11 138 "HayVotes$Tape" "size" "I" "HayVotes") (in_t1 (List.mem_of_getElem? (i := 209) (by decide +kernel))) rfl)⟩
theorem fl_RX11_172 : Flk RX11 172 7 3 := .inr ⟨"HayVotes", (mem_NW (w := Cond.fieldLinkNest RX11 172 "HayVotes$Stack" "hay" "I" "HayVotes") (in_t1 (List.mem_of_getElem? (i := 59) (by decide +kernel))) rfl)⟩
theorem fl_RX11_182 : Flk RX11 182 5 2 := .inr ⟨"HayVotes", (mem_NW (w := Cond.fieldLinkNest RX11 182 "HayVotes$Meadow" "counts" "[I" "HayVotes") (in_t1 (List.mem_of_getElem? (i := 152) (by decide +kernel))) rfl)⟩
theorem fl_RX11_185 : Flk RX11 185 7 1 := .inr ⟨"HayVotes", (mem_NW (w := Cond.fieldLinkNest RX11 185 "HayVotes$Stack" "y" "I" "HayVotes") (in_t1 (List.mem_of_getElem? (i := 50) (by decide +kernel))) rfl)⟩
theorem fl_RX11_188 : Flk RX11 188 7 0 := .inr ⟨"HayVotes", (mem_NW (w := Cond.fieldLinkNest RX11 188 "HayVotes$Stack" "x" "I" "HayVotes") (in_t1 (List.mem_of_getElem? (i := 46) (by decide +kernel))) rfl)⟩
theorem fl_RX11_191 : Flk RX11 191 7 2 := .inr ⟨"HayVotes", (mem_NW (w := Cond.fieldLinkNest RX11 191 "HayVotes$Stack" "colour" "I" "HayVotes") (in_t1 (List.mem_of_getElem? (i := 55) (by decide +kernel))) rfl)⟩
theorem fl_RX11_194 : Flk RX11 194 7 4 := .inr ⟨"HayVotes", (mem_NW (w := Cond.fieldLinkNest RX11 194 "HayVotes$Stack" "clover" "I" "HayVotes") (in_t1 (List.mem_of_getElem? (i := 62) (by decide +kernel))) rfl)⟩
theorem fl_RX11_197 : Flk RX11 197 7 5 := .inr ⟨"HayVotes", (mem_NW (w := Cond.fieldLinkNest RX11 197 "HayVotes$Stack" "damp" "I" "HayVotes") (in_t1 (List.mem_of_getElem? (i := 65) (by decide +kernel))) rfl)⟩
theorem fl_RX11_200 : Flk RX11 200 7 6 := .inr ⟨"HayVotes", (mem_NW (w := Cond.fieldLinkNest RX11 200 "HayVotes$Stack" "heat" "I" "HayVotes") (in_t1 (List.mem_of_getElem? (i := 69) (by decide +kernel))) rfl)⟩
theorem fl_RX11_203 : Flk RX11 203 7 7 := .inr ⟨"HayVotes", (mem_NW (w := Cond.fieldLinkNest RX11 203 "HayVotes$Stack" "stands" "Z" "HayVotes") (in_t1 (List.mem_of_getElem? (i := 74) (by decide +kernel))) rfl)⟩
theorem fl_RX11_206 : Flk RX11 206 1 1 := .inr ⟨"HayVotes", (mem_NW (w := Cond.fieldLinkNest RX11 206 "HayVotes$Cow" "y" "I" "HayVotes") (in_t1 (List.mem_of_getElem? (i := 110) (by decide +kernel))) rfl)⟩
theorem fl_RX11_207 : Flk RX11 207 1 0 := .inr ⟨"HayVotes", (mem_NW (w := Cond.fieldLinkNest RX11 207 "HayVotes$Cow" "x" "I" "HayVotes") (in_t1 (List.mem_of_getElem? (i := 106) (by decide +kernel))) rfl)⟩
theorem fl_RX11_208 : Flk RX11 208 1 2 := .inr ⟨"HayVotes", (mem_NW (w := Cond.fieldLinkNest RX11 208 "HayVotes$Cow" "votes" "I" "HayVotes") (in_t1 (List.mem_of_getElem? (i := 116) (by decide +kernel))) rfl)⟩
theorem fl_RX11_211 : Flk RX11 211 1 3 := .inr ⟨"HayVotes", (mem_NW (w := Cond.fieldLinkNest RX11 211 "HayVotes$Cow" "hunger" "I" "HayVotes") (in_t1 (List.mem_of_getElem? (i := 120) (by decide +kernel))) rfl)⟩
theorem fl_RX11_214 : Flk RX11 214 1 4 := .inr ⟨"HayVotes", (mem_NW (w := Cond.fieldLinkNest RX11 214 "HayVotes$Cow" "lastVote" "I" "HayVotes") (in_t1 (List.mem_of_getElem? (i := 124) (by decide +kernel))) rfl)⟩
theorem fl_RX11_217 : Flk RX11 217 7 8 := .inr ⟨"HayVotes", (mem_NW (w := Cond.fieldLinkNest RX11 217 "HayVotes$Stack" "eatenBy" "[I" "HayVotes") (in_t1 (List.mem_of_getElem? (i := 77) (by decide +kernel))) rfl)⟩
theorem fl_RX11_224 : Flk RX11 224 0 3 := .inr ⟨"HayVotes", (mem_NW (w := Cond.fieldLinkNest RX11 224 "HayVotes$Campaign" "placeCount" "I" "HayVotes") (in_t2 (List.mem_of_getElem? (i := 8) (by decide +kernel))) rfl)⟩
theorem fl_RX11_231 : Flk RX11 231 0 1 := .inr ⟨"HayVotes", (mem_NW (w := Cond.fieldLinkNest RX11 231 "HayVotes$Campaign" "row" "[I" "HayVotes") (in_t2 (List.mem_of_getElem? (i := 5) (by decide +kernel))) rfl)⟩
theorem fl_RX11_274 : Flk RX11 274 6 2 := .inr ⟨"HayVotes", (mem_NW (w := Cond.fieldLinkNest RX11 274 "HayVotes$Odds" "all" "J" "HayVotes") (in_t2 (List.mem_of_getElem? (i := 74) (by decide +kernel))) rfl)⟩
theorem fl_RX11_286 : Flk RX11 286 9 6 := .inr ⟨"HayVotes", (mem_NW (w := Cond.fieldLinkNest RX11 286 "HayVotes$Words" "fitCount" "I" "HayVotes") (in_t2 (List.mem_of_getElem? (i := 31) (by decide +kernel))) rfl)⟩
theorem fl_RX11_289 : Flk RX11 289 9 7 := .inr ⟨"HayVotes", (mem_NW (w := Cond.fieldLinkNest RX11 289 "HayVotes$Words" "firstStack" "I" "HayVotes") (in_t2 (List.mem_of_getElem? (i := 33) (by decide +kernel))) rfl)⟩
theorem fl_RX11_292 : Flk RX11 292 9 8 := .inr ⟨"HayVotes", (mem_NW (w := Cond.fieldLinkNest RX11 292 "HayVotes$Words" "firstDay" "I" "HayVotes") (in_t2 (List.mem_of_getElem? (i := 35) (by decide +kernel))) rfl)⟩
theorem fl_RX11_299 : Flk RX11 299 5 11 := .inr ⟨"HayVotes", (mem_NW (w := Cond.fieldLinkNest RX11 299 "HayVotes$Meadow" "chance" "I" "HayVotes") (in_t1 (List.mem_of_getElem? (i := 174) (by decide +kernel))) rfl)⟩
theorem fl_RX11_311 : Flk RX11 311 5 10 := .inr ⟨"HayVotes", (mem_NW (w := Cond.fieldLinkNest RX11 311 "HayVotes$Meadow" "day" "I" "HayVotes") (in_t1 (List.mem_of_getElem? (i := 172) (by decide +kernel))) rfl)⟩
theorem fl_RX11_314 : Flk RX11 314 3 10 := .inr ⟨"HayVotes", (mem_NW (w := Cond.fieldLinkNest RX11 314 "HayVotes$Law" "clauseCount" "I" "HayVotes") (in_t2 (List.mem_of_getElem? (i := 102) (by decide +kernel))) rfl)⟩
theorem fl_RX11_317 : Flk RX11 317 5 8 := .inr ⟨"HayVotes", (mem_NW (w := Cond.fieldLinkNest RX11 317 "HayVotes$Meadow" "saltStack" "I" "HayVotes") (in_t1 (List.mem_of_getElem? (i := 167) (by decide +kernel))) rfl)⟩
theorem fl_RX11_320 : Flk RX11 320 5 9 := .inr ⟨"HayVotes", (mem_NW (w := Cond.fieldLinkNest RX11 320 "HayVotes$Meadow" "saltDay" "I" "HayVotes") (in_t1 (List.mem_of_getElem? (i := 169) (by decide +kernel))) rfl)⟩
theorem fl_RX0_11 : Flk RX0 11 0 0 := .inl (mem_GT (w := Cond.fieldLink RX0 11 "HayVotes$Campaign" "places" "[I") (in_t2 (List.mem_of_getElem? (i := 3) (by decide +kernel))) rfl)
theorem flg_RX0_11 : Cond.fieldLink RX0 11 "HayVotes$Campaign" "places" "[I" ∈ GT := (mem_GT (w := Cond.fieldLink RX0 11 "HayVotes$Campaign" "places" "[I") (in_t2 (List.mem_of_getElem? (i := 3) (by decide +kernel))) rfl)
theorem fl_RX0_15 : Flk RX0 15 0 1 := .inl (mem_GT (w := Cond.fieldLink RX0 15 "HayVotes$Campaign" "row" "[I") (in_t2 (List.mem_of_getElem? (i := 4) (by decide +kernel))) rfl)
theorem flg_RX0_15 : Cond.fieldLink RX0 15 "HayVotes$Campaign" "row" "[I" ∈ GT := (mem_GT (w := Cond.fieldLink RX0 15 "HayVotes$Campaign" "row" "[I") (in_t2 (List.mem_of_getElem? (i := 4) (by decide +kernel))) rfl)
theorem fl_RX0_18 : Flk RX0 18 0 2 := .inl (mem_GT (w := Cond.fieldLink RX0 18 "HayVotes$Campaign" "trial" "LHayVotes$Meadow;") (in_t2 (List.mem_of_getElem? (i := 6) (by decide +kernel))) rfl)
theorem flg_RX0_18 : Cond.fieldLink RX0 18 "HayVotes$Campaign" "trial" "LHayVotes$Meadow;" ∈ GT := (mem_GT (w := Cond.fieldLink RX0 18 "HayVotes$Campaign" "trial" "LHayVotes$Meadow;") (in_t2 (List.mem_of_getElem? (i := 6) (by decide +kernel))) rfl)
theorem fl_RX0_22 : Flk RX0 22 0 3 := .inl (mem_GT (w := Cond.fieldLink RX0 22 "HayVotes$Campaign" "placeCount" "I") (in_t2 (List.mem_of_getElem? (i := 7) (by decide +kernel))) rfl)
theorem fl_RX0_26 : Flk RX0 26 5 6 := .inr ⟨"HayVotes", (mem_NW (w := Cond.fieldLinkNest RX0 26 "HayVotes$Meadow" "stackCount" "I" "HayVotes") (in_t1 (List.mem_of_getElem? (i := 158) (by decide +kernel))) rfl)⟩
theorem fl_RX0_31 : Flk RX0 31 5 0 := .inr ⟨"HayVotes", (mem_NW (w := Cond.fieldLinkNest RX0 31 "HayVotes$Meadow" "stacks" "[LHayVotes$Stack;" "HayVotes") (in_t1 (List.mem_of_getElem? (i := 142) (by decide +kernel))) rfl)⟩
theorem fl_RX0_35 : Flk RX0 35 7 7 := .inr ⟨"HayVotes", (mem_NW (w := Cond.fieldLinkNest RX0 35 "HayVotes$Stack" "stands" "Z" "HayVotes") (in_t1 (List.mem_of_getElem? (i := 70) (by decide +kernel))) rfl)⟩
theorem fl_RX0_41 : Flk RX0 41 7 2 := .inr ⟨"HayVotes", (mem_NW (w := Cond.fieldLinkNest RX0 41 "HayVotes$Stack" "colour" "I" "HayVotes") (in_t1 (List.mem_of_getElem? (i := 52) (by decide +kernel))) rfl)⟩
theorem fl_RX1_9 : Flk RX1 9 1 5 := .inl (mem_GT (w := Cond.fieldLink RX1 9 "HayVotes$Cow" "tastes" "[I") (in_t1 (List.mem_of_getElem? (i := 125) (by decide +kernel))) rfl)
theorem flg_RX1_9 : Cond.fieldLink RX1 9 "HayVotes$Cow" "tastes" "[I" ∈ GT := (mem_GT (w := Cond.fieldLink RX1 9 "HayVotes$Cow" "tastes" "[I") (in_t1 (List.mem_of_getElem? (i := 125) (by decide +kernel))) rfl)
theorem fl_RX1_15 : Flk RX1 15 1 0 := .inl (mem_GT (w := Cond.fieldLink RX1 15 "HayVotes$Cow" "x" "I") (in_t1 (List.mem_of_getElem? (i := 103) (by decide +kernel))) rfl)
theorem fl_RX1_19 : Flk RX1 19 1 1 := .inl (mem_GT (w := Cond.fieldLink RX1 19 "HayVotes$Cow" "y" "I") (in_t1 (List.mem_of_getElem? (i := 107) (by decide +kernel))) rfl)
theorem fl_RX1_22 : Flk RX1 22 1 2 := .inl (mem_GT (w := Cond.fieldLink RX1 22 "HayVotes$Cow" "votes" "I") (in_t1 (List.mem_of_getElem? (i := 112) (by decide +kernel))) rfl)
theorem fl_RX1_25 : Flk RX1 25 1 3 := .inl (mem_GT (w := Cond.fieldLink RX1 25 "HayVotes$Cow" "hunger" "I") (in_t1 (List.mem_of_getElem? (i := 117) (by decide +kernel))) rfl)
theorem fl_RX1_28 : Flk RX1 28 1 4 := .inl (mem_GT (w := Cond.fieldLink RX1 28 "HayVotes$Cow" "lastVote" "I") (in_t1 (List.mem_of_getElem? (i := 121) (by decide +kernel))) rfl)
theorem fl_RX2_11 : Flk RX2 11 2 0 := .inl (mem_GT (w := Cond.fieldLink RX2 11 "HayVotes$Districts" "tallies" "[I") (in_t2 (List.mem_of_getElem? (i := 61) (by decide +kernel))) rfl)
theorem flg_RX2_11 : Cond.fieldLink RX2 11 "HayVotes$Districts" "tallies" "[I" ∈ GT := (mem_GT (w := Cond.fieldLink RX2 11 "HayVotes$Districts" "tallies" "[I") (in_t2 (List.mem_of_getElem? (i := 61) (by decide +kernel))) rfl)
theorem fl_RX2_15 : Flk RX2 15 5 7 := .inr ⟨"HayVotes", (mem_NW (w := Cond.fieldLinkNest RX2 15 "HayVotes$Meadow" "cowCount" "I" "HayVotes") (in_t1 (List.mem_of_getElem? (i := 163) (by decide +kernel))) rfl)⟩
theorem fl_RX2_21 : Flk RX2 21 5 1 := .inr ⟨"HayVotes", (mem_NW (w := Cond.fieldLinkNest RX2 21 "HayVotes$Meadow" "cows" "[LHayVotes$Cow;" "HayVotes") (in_t1 (List.mem_of_getElem? (i := 148) (by decide +kernel))) rfl)⟩
theorem fl_RX2_25 : Flk RX2 25 1 1 := .inr ⟨"HayVotes", (mem_NW (w := Cond.fieldLinkNest RX2 25 "HayVotes$Cow" "y" "I" "HayVotes") (in_t1 (List.mem_of_getElem? (i := 108) (by decide +kernel))) rfl)⟩
theorem fl_RX2_30 : Flk RX2 30 1 0 := .inr ⟨"HayVotes", (mem_NW (w := Cond.fieldLinkNest RX2 30 "HayVotes$Cow" "x" "I" "HayVotes") (in_t1 (List.mem_of_getElem? (i := 104) (by decide +kernel))) rfl)⟩
theorem fl_RX2_33 : Flk RX2 33 1 4 := .inr ⟨"HayVotes", (mem_NW (w := Cond.fieldLinkNest RX2 33 "HayVotes$Cow" "lastVote" "I" "HayVotes") (in_t1 (List.mem_of_getElem? (i := 122) (by decide +kernel))) rfl)⟩
theorem fl_RX2_36 : Flk RX2 36 1 2 := .inr ⟨"HayVotes", (mem_NW (w := Cond.fieldLinkNest RX2 36 "HayVotes$Cow" "votes" "I" "HayVotes") (in_t1 (List.mem_of_getElem? (i := 113) (by decide +kernel))) rfl)⟩
theorem fl_RX3_9 : Flk RX3 9 3 0 := .inl (mem_GT (w := Cond.fieldLink RX3 9 "HayVotes$Law" "ops" "[I") (in_t2 (List.mem_of_getElem? (i := 89) (by decide +kernel))) rfl)
theorem flg_RX3_9 : Cond.fieldLink RX3 9 "HayVotes$Law" "ops" "[I" ∈ GT := (mem_GT (w := Cond.fieldLink RX3 9 "HayVotes$Law" "ops" "[I") (in_t2 (List.mem_of_getElem? (i := 89) (by decide +kernel))) rfl)
theorem fl_RX3_13 : Flk RX3 13 3 1 := .inl (mem_GT (w := Cond.fieldLink RX3 13 "HayVotes$Law" "args" "[I") (in_t2 (List.mem_of_getElem? (i := 90) (by decide +kernel))) rfl)
theorem flg_RX3_13 : Cond.fieldLink RX3 13 "HayVotes$Law" "args" "[I" ∈ GT := (mem_GT (w := Cond.fieldLink RX3 13 "HayVotes$Law" "args" "[I") (in_t2 (List.mem_of_getElem? (i := 90) (by decide +kernel))) rfl)
theorem fl_RX3_16 : Flk RX3 16 3 2 := .inl (mem_GT (w := Cond.fieldLink RX3 16 "HayVotes$Law" "kinds" "[I") (in_t2 (List.mem_of_getElem? (i := 91) (by decide +kernel))) rfl)
theorem flg_RX3_16 : Cond.fieldLink RX3 16 "HayVotes$Law" "kinds" "[I" ∈ GT := (mem_GT (w := Cond.fieldLink RX3 16 "HayVotes$Law" "kinds" "[I") (in_t2 (List.mem_of_getElem? (i := 91) (by decide +kernel))) rfl)
theorem fl_RX3_19 : Flk RX3 19 3 3 := .inl (mem_GT (w := Cond.fieldLink RX3 19 "HayVotes$Law" "valueStarts" "[I") (in_t2 (List.mem_of_getElem? (i := 92) (by decide +kernel))) rfl)
theorem flg_RX3_19 : Cond.fieldLink RX3 19 "HayVotes$Law" "valueStarts" "[I" ∈ GT := (mem_GT (w := Cond.fieldLink RX3 19 "HayVotes$Law" "valueStarts" "[I") (in_t2 (List.mem_of_getElem? (i := 92) (by decide +kernel))) rfl)
theorem fl_RX3_22 : Flk RX3 22 3 4 := .inl (mem_GT (w := Cond.fieldLink RX3 22 "HayVotes$Law" "conditionStarts" "[I") (in_t2 (List.mem_of_getElem? (i := 93) (by decide +kernel))) rfl)
theorem flg_RX3_22 : Cond.fieldLink RX3 22 "HayVotes$Law" "conditionStarts" "[I" ∈ GT := (mem_GT (w := Cond.fieldLink RX3 22 "HayVotes$Law" "conditionStarts" "[I") (in_t2 (List.mem_of_getElem? (i := 93) (by decide +kernel))) rfl)
theorem fl_RX3_25 : Flk RX3 25 3 5 := .inl (mem_GT (w := Cond.fieldLink RX3 25 "HayVotes$Law" "conditionEnds" "[I") (in_t2 (List.mem_of_getElem? (i := 94) (by decide +kernel))) rfl)
theorem flg_RX3_25 : Cond.fieldLink RX3 25 "HayVotes$Law" "conditionEnds" "[I" ∈ GT := (mem_GT (w := Cond.fieldLink RX3 25 "HayVotes$Law" "conditionEnds" "[I") (in_t2 (List.mem_of_getElem? (i := 94) (by decide +kernel))) rfl)
theorem fl_RX3_28 : Flk RX3 28 3 6 := .inl (mem_GT (w := Cond.fieldLink RX3 28 "HayVotes$Law" "letters" "[I") (in_t2 (List.mem_of_getElem? (i := 95) (by decide +kernel))) rfl)
theorem flg_RX3_28 : Cond.fieldLink RX3 28 "HayVotes$Law" "letters" "[I" ∈ GT := (mem_GT (w := Cond.fieldLink RX3 28 "HayVotes$Law" "letters" "[I") (in_t2 (List.mem_of_getElem? (i := 95) (by decide +kernel))) rfl)
theorem fl_RX3_31 : Flk RX3 31 3 7 := .inl (mem_GT (w := Cond.fieldLink RX3 31 "HayVotes$Law" "masks" "[I") (in_t2 (List.mem_of_getElem? (i := 96) (by decide +kernel))) rfl)
theorem flg_RX3_31 : Cond.fieldLink RX3 31 "HayVotes$Law" "masks" "[I" ∈ GT := (mem_GT (w := Cond.fieldLink RX3 31 "HayVotes$Law" "masks" "[I") (in_t2 (List.mem_of_getElem? (i := 96) (by decide +kernel))) rfl)
theorem fl_RX3_34 : Flk RX3 34 3 8 := .inl (mem_GT (w := Cond.fieldLink RX3 34 "HayVotes$Law" "pile" "[I") (in_t2 (List.mem_of_getElem? (i := 97) (by decide +kernel))) rfl)
theorem flg_RX3_34 : Cond.fieldLink RX3 34 "HayVotes$Law" "pile" "[I" ∈ GT := (mem_GT (w := Cond.fieldLink RX3 34 "HayVotes$Law" "pile" "[I") (in_t2 (List.mem_of_getElem? (i := 97) (by decide +kernel))) rfl)
theorem fl_RX3_37 : Flk RX3 37 3 9 := .inl (mem_GT (w := Cond.fieldLink RX3 37 "HayVotes$Law" "size" "I") (in_t2 (List.mem_of_getElem? (i := 98) (by decide +kernel))) rfl)
theorem fl_RX3_41 : Flk RX3 41 3 10 := .inl (mem_GT (w := Cond.fieldLink RX3 41 "HayVotes$Law" "clauseCount" "I") (in_t2 (List.mem_of_getElem? (i := 100) (by decide +kernel))) rfl)
theorem fl_RX3_44 : Flk RX3 44 7 3 := .inr ⟨"HayVotes", (mem_NW (w := Cond.fieldLinkNest RX3 44 "HayVotes$Stack" "hay" "I" "HayVotes") (in_t1 (List.mem_of_getElem? (i := 57) (by decide +kernel))) rfl)⟩
theorem fl_RX3_49 : Flk RX3 49 7 6 := .inr ⟨"HayVotes", (mem_NW (w := Cond.fieldLinkNest RX3 49 "HayVotes$Stack" "heat" "I" "HayVotes") (in_t1 (List.mem_of_getElem? (i := 67) (by decide +kernel))) rfl)⟩
theorem fl_RX3_52 : Flk RX3 52 7 4 := .inr ⟨"HayVotes", (mem_NW (w := Cond.fieldLinkNest RX3 52 "HayVotes$Stack" "clover" "I" "HayVotes") (in_t1 (List.mem_of_getElem? (i := 61) (by decide +kernel))) rfl)⟩
theorem fl_RX3_59 : Flk RX3 59 5 1 := .inr ⟨"HayVotes", (mem_NW (w := Cond.fieldLinkNest RX3 59 "HayVotes$Meadow" "cows" "[LHayVotes$Cow;" "HayVotes") (in_t1 (List.mem_of_getElem? (i := 150) (by decide +kernel))) rfl)⟩
theorem fl_RX3_65 : Flk RX3 65 5 0 := .inr ⟨"HayVotes", (mem_NW (w := Cond.fieldLinkNest RX3 65 "HayVotes$Meadow" "stacks" "[LHayVotes$Stack;" "HayVotes") (in_t1 (List.mem_of_getElem? (i := 145) (by decide +kernel))) rfl)⟩
theorem fl_RX3_81 : Flk RX3 81 3 11 := .inl (mem_GT (w := Cond.fieldLink RX3 81 "HayVotes$Law" "truth" "Z") (in_t2 (List.mem_of_getElem? (i := 103) (by decide +kernel))) rfl)
theorem fl_RX3_85 : Flk RX3 85 7 5 := .inr ⟨"HayVotes", (mem_NW (w := Cond.fieldLinkNest RX3 85 "HayVotes$Stack" "damp" "I" "HayVotes") (in_t1 (List.mem_of_getElem? (i := 64) (by decide +kernel))) rfl)⟩
theorem fl_RX3_88 : Flk RX3 88 7 2 := .inr ⟨"HayVotes", (mem_NW (w := Cond.fieldLinkNest RX3 88 "HayVotes$Stack" "colour" "I" "HayVotes") (in_t1 (List.mem_of_getElem? (i := 53) (by decide +kernel))) rfl)⟩
theorem fl_RX3_95 : Flk RX3 95 1 5 := .inr ⟨"HayVotes", (mem_NW (w := Cond.fieldLinkNest RX3 95 "HayVotes$Cow" "tastes" "[I" "HayVotes") (in_t1 (List.mem_of_getElem? (i := 127) (by decide +kernel))) rfl)⟩
theorem fl_RX3_100 : Flk RX3 100 1 0 := .inr ⟨"HayVotes", (mem_NW (w := Cond.fieldLinkNest RX3 100 "HayVotes$Cow" "x" "I" "HayVotes") (in_t1 (List.mem_of_getElem? (i := 105) (by decide +kernel))) rfl)⟩
theorem fl_RX3_103 : Flk RX3 103 7 0 := .inr ⟨"HayVotes", (mem_NW (w := Cond.fieldLinkNest RX3 103 "HayVotes$Stack" "x" "I" "HayVotes") (in_t1 (List.mem_of_getElem? (i := 45) (by decide +kernel))) rfl)⟩
theorem fl_RX3_110 : Flk RX3 110 1 1 := .inr ⟨"HayVotes", (mem_NW (w := Cond.fieldLinkNest RX3 110 "HayVotes$Cow" "y" "I" "HayVotes") (in_t1 (List.mem_of_getElem? (i := 109) (by decide +kernel))) rfl)⟩
theorem fl_RX3_113 : Flk RX3 113 7 1 := .inr ⟨"HayVotes", (mem_NW (w := Cond.fieldLinkNest RX3 113 "HayVotes$Stack" "y" "I" "HayVotes") (in_t1 (List.mem_of_getElem? (i := 49) (by decide +kernel))) rfl)⟩
theorem fl_RX3_114 : Flk RX3 114 1 2 := .inr ⟨"HayVotes", (mem_NW (w := Cond.fieldLinkNest RX3 114 "HayVotes$Cow" "votes" "I" "HayVotes") (in_t1 (List.mem_of_getElem? (i := 114) (by decide +kernel))) rfl)⟩
theorem fl_RX3_117 : Flk RX3 117 1 3 := .inr ⟨"HayVotes", (mem_NW (w := Cond.fieldLinkNest RX3 117 "HayVotes$Cow" "hunger" "I" "HayVotes") (in_t1 (List.mem_of_getElem? (i := 118) (by decide +kernel))) rfl)⟩
theorem fl_RX3_120 : Flk RX3 120 3 12 := .inl (mem_GT (w := Cond.fieldLink RX3 120 "HayVotes$Law" "value" "I") (in_t2 (List.mem_of_getElem? (i := 104) (by decide +kernel))) rfl)
theorem fl_RX4_9 : Flk RX4 9 4 0 := .inl (mem_GT (w := Cond.fieldLink RX4 9 "HayVotes$LawReader" "tape" "LHayVotes$Tape;") (in_t1 (List.mem_of_getElem? (i := 221) (by decide +kernel))) rfl)
theorem flg_RX4_9 : Cond.fieldLink RX4 9 "HayVotes$LawReader" "tape" "LHayVotes$Tape;" ∈ GT := (mem_GT (w := Cond.fieldLink RX4 9 "HayVotes$LawReader" "tape" "LHayVotes$Tape;") (in_t1 (List.mem_of_getElem? (i := 221) (by decide +kernel))) rfl)
theorem fl_RX4_15 : Flk RX4 15 4 1 := .inl (mem_GT (w := Cond.fieldLink RX4 15 "HayVotes$LawReader" "law" "LHayVotes$Law;") (in_t1 (List.mem_of_getElem? (i := 222) (by decide +kernel))) rfl)
theorem fl_RX4_24 : Flk RX4 24 4 2 := .inl (mem_GT (w := Cond.fieldLink RX4 24 "HayVotes$LawReader" "length" "I") (in_t1 (List.mem_of_getElem? (i := 223) (by decide +kernel))) rfl)
theorem fl_RX4_28 : Flk RX4 28 4 3 := .inl (mem_GT (w := Cond.fieldLink RX4 28 "HayVotes$LawReader" "at" "I") (in_t1 (List.mem_of_getElem? (i := 224) (by decide +kernel))) rfl)
theorem fl_RX4_31 : Flk RX4 31 4 4 := .inl (mem_GT (w := Cond.fieldLink RX4 31 "HayVotes$LawReader" "fault" "I") (in_t1 (List.mem_of_getElem? (i := 225) (by decide +kernel))) rfl)
theorem fl_RX4_38 : Flk RX4 38 3 10 := .inr ⟨"HayVotes", (mem_NW (w := Cond.fieldLinkNest RX4 38 "HayVotes$Law" "clauseCount" "I" "HayVotes") (in_t2 (List.mem_of_getElem? (i := 101) (by decide +kernel))) rfl)⟩
theorem fl_RX4_43 : Flk RX4 43 8 0 := .inr ⟨"HayVotes", (mem_NW (w := Cond.fieldLinkNest RX4 43 "HayVotes$Tape" "bytes" "[I" "HayVotes") (in_t1 (List.mem_of_getElem? (i := 207) (by decide +kernel))) rfl)⟩
theorem fl_RX4_61 : Flk RX4 61 3 9 := .inr ⟨"HayVotes", (mem_NW (w := Cond.fieldLinkNest RX4 61 "HayVotes$Law" "size" "I" "HayVotes") (in_t2 (List.mem_of_getElem? (i := 99) (by decide +kernel))) rfl)⟩
theorem fl_RX5_11 : Flk RX5 11 5 0 := .inl (mem_GT (w := Cond.fieldLink RX5 11 "HayVotes$Meadow" "stacks" "[LHayVotes$Stack;") (in_t1 (List.mem_of_getElem? (i := 141) (by decide +kernel))) rfl)
theorem flg_RX5_11 : Cond.fieldLink RX5 11 "HayVotes$Meadow" "stacks" "[LHayVotes$Stack;" ∈ GT := (mem_GT (w := Cond.fieldLink RX5 11 "HayVotes$Meadow" "stacks" "[LHayVotes$Stack;") (in_t1 (List.mem_of_getElem? (i := 141) (by decide +kernel))) rfl)
theorem fl_RX5_19 : Flk RX5 19 5 1 := .inl (mem_GT (w := Cond.fieldLink RX5 19 "HayVotes$Meadow" "cows" "[LHayVotes$Cow;") (in_t1 (List.mem_of_getElem? (i := 146) (by decide +kernel))) rfl)
theorem flg_RX5_19 : Cond.fieldLink RX5 19 "HayVotes$Meadow" "cows" "[LHayVotes$Cow;" ∈ GT := (mem_GT (w := Cond.fieldLink RX5 19 "HayVotes$Meadow" "cows" "[LHayVotes$Cow;") (in_t1 (List.mem_of_getElem? (i := 146) (by decide +kernel))) rfl)
theorem fl_RX5_23 : Flk RX5 23 5 2 := .inl (mem_GT (w := Cond.fieldLink RX5 23 "HayVotes$Meadow" "counts" "[I") (in_t1 (List.mem_of_getElem? (i := 151) (by decide +kernel))) rfl)
theorem flg_RX5_23 : Cond.fieldLink RX5 23 "HayVotes$Meadow" "counts" "[I" ∈ GT := (mem_GT (w := Cond.fieldLink RX5 23 "HayVotes$Meadow" "counts" "[I") (in_t1 (List.mem_of_getElem? (i := 151) (by decide +kernel))) rfl)
theorem fl_RX5_27 : Flk RX5 27 5 3 := .inl (mem_GT (w := Cond.fieldLink RX5 27 "HayVotes$Meadow" "ateAt" "[I") (in_t1 (List.mem_of_getElem? (i := 153) (by decide +kernel))) rfl)
theorem flg_RX5_27 : Cond.fieldLink RX5 27 "HayVotes$Meadow" "ateAt" "[I" ∈ GT := (mem_GT (w := Cond.fieldLink RX5 27 "HayVotes$Meadow" "ateAt" "[I") (in_t1 (List.mem_of_getElem? (i := 153) (by decide +kernel))) rfl)
theorem fl_RX5_30 : Flk RX5 30 5 4 := .inl (mem_GT (w := Cond.fieldLink RX5 30 "HayVotes$Meadow" "amounts" "[I") (in_t1 (List.mem_of_getElem? (i := 155) (by decide +kernel))) rfl)
theorem flg_RX5_30 : Cond.fieldLink RX5 30 "HayVotes$Meadow" "amounts" "[I" ∈ GT := (mem_GT (w := Cond.fieldLink RX5 30 "HayVotes$Meadow" "amounts" "[I") (in_t1 (List.mem_of_getElem? (i := 155) (by decide +kernel))) rfl)
theorem fl_RX5_33 : Flk RX5 33 5 5 := .inl (mem_GT (w := Cond.fieldLink RX5 33 "HayVotes$Meadow" "amountLooks" "[I") (in_t1 (List.mem_of_getElem? (i := 156) (by decide +kernel))) rfl)
theorem flg_RX5_33 : Cond.fieldLink RX5 33 "HayVotes$Meadow" "amountLooks" "[I" ∈ GT := (mem_GT (w := Cond.fieldLink RX5 33 "HayVotes$Meadow" "amountLooks" "[I") (in_t1 (List.mem_of_getElem? (i := 156) (by decide +kernel))) rfl)
theorem fl_RX5_36 : Flk RX5 36 5 8 := .inl (mem_GT (w := Cond.fieldLink RX5 36 "HayVotes$Meadow" "saltStack" "I") (in_t1 (List.mem_of_getElem? (i := 166) (by decide +kernel))) rfl)
theorem fl_RX5_40 : Flk RX5 40 5 9 := .inl (mem_GT (w := Cond.fieldLink RX5 40 "HayVotes$Meadow" "saltDay" "I") (in_t1 (List.mem_of_getElem? (i := 168) (by decide +kernel))) rfl)
theorem fl_RX5_43 : Flk RX5 43 5 11 := .inl (mem_GT (w := Cond.fieldLink RX5 43 "HayVotes$Meadow" "chance" "I") (in_t1 (List.mem_of_getElem? (i := 173) (by decide +kernel))) rfl)
theorem fl_RX5_48 : Flk RX5 48 5 6 := .inl (mem_GT (w := Cond.fieldLink RX5 48 "HayVotes$Meadow" "stackCount" "I") (in_t1 (List.mem_of_getElem? (i := 157) (by decide +kernel))) rfl)
theorem fl_RX5_51 : Flk RX5 51 5 7 := .inl (mem_GT (w := Cond.fieldLink RX5 51 "HayVotes$Meadow" "cowCount" "I") (in_t1 (List.mem_of_getElem? (i := 161) (by decide +kernel))) rfl)
theorem fl_RX5_54 : Flk RX5 54 5 10 := .inl (mem_GT (w := Cond.fieldLink RX5 54 "HayVotes$Meadow" "day" "I") (in_t1 (List.mem_of_getElem? (i := 170) (by decide +kernel))) rfl)
theorem fl_RX5_67 : Flk RX5 67 7 7 := .inr ⟨"HayVotes", (mem_NW (w := Cond.fieldLinkNest RX5 67 "HayVotes$Stack" "stands" "Z" "HayVotes") (in_t1 (List.mem_of_getElem? (i := 73) (by decide +kernel))) rfl)⟩
theorem fl_RX5_71 : Flk RX5 71 7 0 := .inr ⟨"HayVotes", (mem_NW (w := Cond.fieldLinkNest RX5 71 "HayVotes$Stack" "x" "I" "HayVotes") (in_t1 (List.mem_of_getElem? (i := 44) (by decide +kernel))) rfl)⟩
theorem fl_RX5_74 : Flk RX5 74 7 1 := .inr ⟨"HayVotes", (mem_NW (w := Cond.fieldLinkNest RX5 74 "HayVotes$Stack" "y" "I" "HayVotes") (in_t1 (List.mem_of_getElem? (i := 48) (by decide +kernel))) rfl)⟩
theorem fl_RX5_77 : Flk RX5 77 7 3 := .inr ⟨"HayVotes", (mem_NW (w := Cond.fieldLinkNest RX5 77 "HayVotes$Stack" "hay" "I" "HayVotes") (in_t1 (List.mem_of_getElem? (i := 58) (by decide +kernel))) rfl)⟩
theorem fl_RX5_106 : Flk RX5 106 1 3 := .inr ⟨"HayVotes", (mem_NW (w := Cond.fieldLinkNest RX5 106 "HayVotes$Cow" "hunger" "I" "HayVotes") (in_t1 (List.mem_of_getElem? (i := 119) (by decide +kernel))) rfl)⟩
theorem fl_RX5_114 : Flk RX5 114 7 8 := .inr ⟨"HayVotes", (mem_NW (w := Cond.fieldLinkNest RX5 114 "HayVotes$Stack" "eatenBy" "[I" "HayVotes") (in_t1 (List.mem_of_getElem? (i := 76) (by decide +kernel))) rfl)⟩
theorem fl_RX5_117 : Flk RX5 117 7 2 := .inr ⟨"HayVotes", (mem_NW (w := Cond.fieldLinkNest RX5 117 "HayVotes$Stack" "colour" "I" "HayVotes") (in_t1 (List.mem_of_getElem? (i := 54) (by decide +kernel))) rfl)⟩
theorem fl_RX5_120 : Flk RX5 120 1 2 := .inr ⟨"HayVotes", (mem_NW (w := Cond.fieldLinkNest RX5 120 "HayVotes$Cow" "votes" "I" "HayVotes") (in_t1 (List.mem_of_getElem? (i := 115) (by decide +kernel))) rfl)⟩
theorem fl_RX5_123 : Flk RX5 123 1 4 := .inr ⟨"HayVotes", (mem_NW (w := Cond.fieldLinkNest RX5 123 "HayVotes$Cow" "lastVote" "I" "HayVotes") (in_t1 (List.mem_of_getElem? (i := 123) (by decide +kernel))) rfl)⟩
theorem fl_RX5_126 : Flk RX5 126 7 6 := .inr ⟨"HayVotes", (mem_NW (w := Cond.fieldLinkNest RX5 126 "HayVotes$Stack" "heat" "I" "HayVotes") (in_t1 (List.mem_of_getElem? (i := 68) (by decide +kernel))) rfl)⟩
theorem fl_RX6_9 : Flk RX6 9 6 0 := .inl (mem_GT (w := Cond.fieldLink RX6 9 "HayVotes$Odds" "ways" "[J") (in_t2 (List.mem_of_getElem? (i := 71) (by decide +kernel))) rfl)
theorem flg_RX6_9 : Cond.fieldLink RX6 9 "HayVotes$Odds" "ways" "[J" ∈ GT := (mem_GT (w := Cond.fieldLink RX6 9 "HayVotes$Odds" "ways" "[J") (in_t2 (List.mem_of_getElem? (i := 71) (by decide +kernel))) rfl)
theorem fl_RX6_13 : Flk RX6 13 6 1 := .inl (mem_GT (w := Cond.fieldLink RX6 13 "HayVotes$Odds" "top" "I") (in_t2 (List.mem_of_getElem? (i := 72) (by decide +kernel))) rfl)
theorem fl_RX6_17 : Flk RX6 17 6 2 := .inl (mem_GT (w := Cond.fieldLink RX6 17 "HayVotes$Odds" "all" "J") (in_t2 (List.mem_of_getElem? (i := 73) (by decide +kernel))) rfl)
theorem fl_RX7_9 : Flk RX7 9 7 8 := .inl (mem_GT (w := Cond.fieldLink RX7 9 "HayVotes$Stack" "eatenBy" "[I") (in_t1 (List.mem_of_getElem? (i := 75) (by decide +kernel))) rfl)
theorem flg_RX7_9 : Cond.fieldLink RX7 9 "HayVotes$Stack" "eatenBy" "[I" ∈ GT := (mem_GT (w := Cond.fieldLink RX7 9 "HayVotes$Stack" "eatenBy" "[I") (in_t1 (List.mem_of_getElem? (i := 75) (by decide +kernel))) rfl)
theorem fl_RX7_15 : Flk RX7 15 7 0 := .inl (mem_GT (w := Cond.fieldLink RX7 15 "HayVotes$Stack" "x" "I") (in_t1 (List.mem_of_getElem? (i := 43) (by decide +kernel))) rfl)
theorem fl_RX7_19 : Flk RX7 19 7 1 := .inl (mem_GT (w := Cond.fieldLink RX7 19 "HayVotes$Stack" "y" "I") (in_t1 (List.mem_of_getElem? (i := 47) (by decide +kernel))) rfl)
theorem fl_RX7_22 : Flk RX7 22 7 2 := .inl (mem_GT (w := Cond.fieldLink RX7 22 "HayVotes$Stack" "colour" "I") (in_t1 (List.mem_of_getElem? (i := 51) (by decide +kernel))) rfl)
theorem fl_RX7_25 : Flk RX7 25 7 3 := .inl (mem_GT (w := Cond.fieldLink RX7 25 "HayVotes$Stack" "hay" "I") (in_t1 (List.mem_of_getElem? (i := 56) (by decide +kernel))) rfl)
theorem fl_RX7_28 : Flk RX7 28 7 4 := .inl (mem_GT (w := Cond.fieldLink RX7 28 "HayVotes$Stack" "clover" "I") (in_t1 (List.mem_of_getElem? (i := 60) (by decide +kernel))) rfl)
theorem fl_RX7_31 : Flk RX7 31 7 5 := .inl (mem_GT (w := Cond.fieldLink RX7 31 "HayVotes$Stack" "damp" "I") (in_t1 (List.mem_of_getElem? (i := 63) (by decide +kernel))) rfl)
theorem fl_RX7_34 : Flk RX7 34 7 6 := .inl (mem_GT (w := Cond.fieldLink RX7 34 "HayVotes$Stack" "heat" "I") (in_t1 (List.mem_of_getElem? (i := 66) (by decide +kernel))) rfl)
theorem fl_RX7_37 : Flk RX7 37 7 7 := .inl (mem_GT (w := Cond.fieldLink RX7 37 "HayVotes$Stack" "stands" "Z") (in_t1 (List.mem_of_getElem? (i := 71) (by decide +kernel))) rfl)
theorem fl_RX8_9 : Flk RX8 9 5 1 := .inr ⟨"HayVotes", (mem_NW (w := Cond.fieldLinkNest RX8 9 "HayVotes$Meadow" "cows" "[LHayVotes$Cow;" "HayVotes") (in_t1 (List.mem_of_getElem? (i := 147) (by decide +kernel))) rfl)⟩
theorem fl_RX8_15 : Flk RX8 15 1 2 := .inr ⟨"HayVotes", (mem_NW (w := Cond.fieldLinkNest RX8 15 "HayVotes$Cow" "votes" "I" "HayVotes") (in_t1 (List.mem_of_getElem? (i := 111) (by decide +kernel))) rfl)⟩
theorem fl_RX8_27 : Flk RX8 27 5 7 := .inr ⟨"HayVotes", (mem_NW (w := Cond.fieldLinkNest RX8 27 "HayVotes$Meadow" "cowCount" "I" "HayVotes") (in_t1 (List.mem_of_getElem? (i := 162) (by decide +kernel))) rfl)⟩
theorem fl_RX9_11 : Flk RX9 11 8 0 := .inl (mem_GT (w := Cond.fieldLink RX9 11 "HayVotes$Tape" "bytes" "[I") (in_t1 (List.mem_of_getElem? (i := 206) (by decide +kernel))) rfl)
theorem flg_RX9_11 : Cond.fieldLink RX9 11 "HayVotes$Tape" "bytes" "[I" ∈ GT := (mem_GT (w := Cond.fieldLink RX9 11 "HayVotes$Tape" "bytes" "[I") (in_t1 (List.mem_of_getElem? (i := 206) (by decide +kernel))) rfl)
theorem fl_RX9_15 : Flk RX9 15 8 1 := .inl (mem_GT (w := Cond.fieldLink RX9 15 "HayVotes$Tape" "size" "I") (in_t1 (List.mem_of_getElem? (i := 208) (by decide +kernel))) rfl)
theorem fl_RX10_11 : Flk RX10 11 9 0 := .inl (mem_GT (w := Cond.fieldLink RX10 11 "HayVotes$Words" "cows" "[I") (in_t2 (List.mem_of_getElem? (i := 24) (by decide +kernel))) rfl)
theorem flg_RX10_11 : Cond.fieldLink RX10 11 "HayVotes$Words" "cows" "[I" ∈ GT := (mem_GT (w := Cond.fieldLink RX10 11 "HayVotes$Words" "cows" "[I") (in_t2 (List.mem_of_getElem? (i := 24) (by decide +kernel))) rfl)
theorem fl_RX10_15 : Flk RX10 15 9 1 := .inl (mem_GT (w := Cond.fieldLink RX10 15 "HayVotes$Words" "stacks" "[I") (in_t2 (List.mem_of_getElem? (i := 25) (by decide +kernel))) rfl)
theorem flg_RX10_15 : Cond.fieldLink RX10 15 "HayVotes$Words" "stacks" "[I" ∈ GT := (mem_GT (w := Cond.fieldLink RX10 15 "HayVotes$Words" "stacks" "[I") (in_t2 (List.mem_of_getElem? (i := 25) (by decide +kernel))) rfl)
theorem fl_RX10_18 : Flk RX10 18 9 2 := .inl (mem_GT (w := Cond.fieldLink RX10 18 "HayVotes$Words" "days" "[I") (in_t2 (List.mem_of_getElem? (i := 26) (by decide +kernel))) rfl)
theorem flg_RX10_18 : Cond.fieldLink RX10 18 "HayVotes$Words" "days" "[I" ∈ GT := (mem_GT (w := Cond.fieldLink RX10 18 "HayVotes$Words" "days" "[I") (in_t2 (List.mem_of_getElem? (i := 26) (by decide +kernel))) rfl)
theorem fl_RX10_21 : Flk RX10 21 9 3 := .inl (mem_GT (w := Cond.fieldLink RX10 21 "HayVotes$Words" "trial" "LHayVotes$Meadow;") (in_t2 (List.mem_of_getElem? (i := 27) (by decide +kernel))) rfl)
theorem flg_RX10_21 : Cond.fieldLink RX10 21 "HayVotes$Words" "trial" "LHayVotes$Meadow;" ∈ GT := (mem_GT (w := Cond.fieldLink RX10 21 "HayVotes$Words" "trial" "LHayVotes$Meadow;") (in_t2 (List.mem_of_getElem? (i := 27) (by decide +kernel))) rfl)
theorem fl_RX10_25 : Flk RX10 25 9 4 := .inl (mem_GT (w := Cond.fieldLink RX10 25 "HayVotes$Words" "wordCount" "I") (in_t2 (List.mem_of_getElem? (i := 28) (by decide +kernel))) rfl)
theorem fl_RX10_29 : Flk RX10 29 9 5 := .inl (mem_GT (w := Cond.fieldLink RX10 29 "HayVotes$Words" "lastDay" "I") (in_t2 (List.mem_of_getElem? (i := 29) (by decide +kernel))) rfl)
theorem fl_RX10_44 : Flk RX10 44 5 7 := .inr ⟨"HayVotes", (mem_NW (w := Cond.fieldLinkNest RX10 44 "HayVotes$Meadow" "cowCount" "I" "HayVotes") (in_t1 (List.mem_of_getElem? (i := 164) (by decide +kernel))) rfl)⟩
theorem fl_RX10_49 : Flk RX10 49 5 6 := .inr ⟨"HayVotes", (mem_NW (w := Cond.fieldLinkNest RX10 49 "HayVotes$Meadow" "stackCount" "I" "HayVotes") (in_t1 (List.mem_of_getElem? (i := 160) (by decide +kernel))) rfl)⟩
theorem fl_RX10_52 : Flk RX10 52 9 6 := .inl (mem_GT (w := Cond.fieldLink RX10 52 "HayVotes$Words" "fitCount" "I") (in_t2 (List.mem_of_getElem? (i := 30) (by decide +kernel))) rfl)
theorem fl_RX10_55 : Flk RX10 55 9 7 := .inl (mem_GT (w := Cond.fieldLink RX10 55 "HayVotes$Words" "firstStack" "I") (in_t2 (List.mem_of_getElem? (i := 32) (by decide +kernel))) rfl)
theorem fl_RX10_58 : Flk RX10 58 9 8 := .inl (mem_GT (w := Cond.fieldLink RX10 58 "HayVotes$Words" "firstDay" "I") (in_t2 (List.mem_of_getElem? (i := 34) (by decide +kernel))) rfl)
theorem fl_RX10_64 : Flk RX10 64 5 0 := .inr ⟨"HayVotes", (mem_NW (w := Cond.fieldLinkNest RX10 64 "HayVotes$Meadow" "stacks" "[LHayVotes$Stack;" "HayVotes") (in_t1 (List.mem_of_getElem? (i := 144) (by decide +kernel))) rfl)⟩
theorem fl_RX10_67 : Flk RX10 67 7 7 := .inr ⟨"HayVotes", (mem_NW (w := Cond.fieldLinkNest RX10 67 "HayVotes$Stack" "stands" "Z" "HayVotes") (in_t1 (List.mem_of_getElem? (i := 72) (by decide +kernel))) rfl)⟩
theorem fl_RX10_73 : Flk RX10 73 5 10 := .inr ⟨"HayVotes", (mem_NW (w := Cond.fieldLinkNest RX10 73 "HayVotes$Meadow" "day" "I" "HayVotes") (in_t1 (List.mem_of_getElem? (i := 171) (by decide +kernel))) rfl)⟩
theorem fl_RX10_95 : Flk RX10 95 5 3 := .inr ⟨"HayVotes", (mem_NW (w := Cond.fieldLinkNest RX10 95 "HayVotes$Meadow" "ateAt" "[I" "HayVotes") (in_t1 (List.mem_of_getElem? (i := 154) (by decide +kernel))) rfl)⟩
theorem fl_RX12_7 : Flk RX12 7 11 0 := .inl (mem_GT (w := Cond.fieldLink RX12 7 "HayVotesModel" "tape" "[B") (in_t4 (List.mem_of_getElem? (i := 235) (by decide +kernel))) rfl)
theorem flg_RX12_7 : Cond.fieldLink RX12 7 "HayVotesModel" "tape" "[B" ∈ GT := (mem_GT (w := Cond.fieldLink RX12 7 "HayVotesModel" "tape" "[B") (in_t4 (List.mem_of_getElem? (i := 235) (by decide +kernel))) rfl)
theorem fl_RX12_13 : Flk RX12 13 11 5 := .inl (mem_GT (w := Cond.fieldLink RX12 13 "HayVotesModel" "luck" "I") (in_t5 (List.mem_of_getElem? (i := 0) (by decide +kernel))) rfl)
theorem fl_RX12_17 : Flk RX12 17 11 6 := .inl (mem_GT (w := Cond.fieldLink RX12 17 "HayVotesModel" "saltAt" "I") (in_t5 (List.mem_of_getElem? (i := 1) (by decide +kernel))) rfl)
theorem fl_RX12_20 : Flk RX12 20 11 8 := .inl (mem_GT (w := Cond.fieldLink RX12 20 "HayVotesModel" "stackSquare" "[I") (in_t5 (List.mem_of_getElem? (i := 3) (by decide +kernel))) rfl)
theorem flg_RX12_20 : Cond.fieldLink RX12 20 "HayVotesModel" "stackSquare" "[I" ∈ GT := (mem_GT (w := Cond.fieldLink RX12 20 "HayVotesModel" "stackSquare" "[I") (in_t5 (List.mem_of_getElem? (i := 3) (by decide +kernel))) rfl)
theorem fl_RX12_24 : Flk RX12 24 11 9 := .inl (mem_GT (w := Cond.fieldLink RX12 24 "HayVotesModel" "colourOf" "[I") (in_t5 (List.mem_of_getElem? (i := 4) (by decide +kernel))) rfl)
theorem flg_RX12_24 : Cond.fieldLink RX12 24 "HayVotesModel" "colourOf" "[I" ∈ GT := (mem_GT (w := Cond.fieldLink RX12 24 "HayVotesModel" "colourOf" "[I") (in_t5 (List.mem_of_getElem? (i := 4) (by decide +kernel))) rfl)
theorem fl_RX12_27 : Flk RX12 27 11 10 := .inl (mem_GT (w := Cond.fieldLink RX12 27 "HayVotesModel" "hay" "[I") (in_t5 (List.mem_of_getElem? (i := 5) (by decide +kernel))) rfl)
theorem flg_RX12_27 : Cond.fieldLink RX12 27 "HayVotesModel" "hay" "[I" ∈ GT := (mem_GT (w := Cond.fieldLink RX12 27 "HayVotesModel" "hay" "[I") (in_t5 (List.mem_of_getElem? (i := 5) (by decide +kernel))) rfl)
theorem fl_RX12_30 : Flk RX12 30 11 11 := .inl (mem_GT (w := Cond.fieldLink RX12 30 "HayVotesModel" "clover" "[I") (in_t5 (List.mem_of_getElem? (i := 6) (by decide +kernel))) rfl)
theorem flg_RX12_30 : Cond.fieldLink RX12 30 "HayVotesModel" "clover" "[I" ∈ GT := (mem_GT (w := Cond.fieldLink RX12 30 "HayVotesModel" "clover" "[I") (in_t5 (List.mem_of_getElem? (i := 6) (by decide +kernel))) rfl)
theorem fl_RX12_33 : Flk RX12 33 11 12 := .inl (mem_GT (w := Cond.fieldLink RX12 33 "HayVotesModel" "damp" "[I") (in_t5 (List.mem_of_getElem? (i := 7) (by decide +kernel))) rfl)
theorem flg_RX12_33 : Cond.fieldLink RX12 33 "HayVotesModel" "damp" "[I" ∈ GT := (mem_GT (w := Cond.fieldLink RX12 33 "HayVotesModel" "damp" "[I") (in_t5 (List.mem_of_getElem? (i := 7) (by decide +kernel))) rfl)
theorem fl_RX12_36 : Flk RX12 36 11 13 := .inl (mem_GT (w := Cond.fieldLink RX12 36 "HayVotesModel" "heat" "[I") (in_t5 (List.mem_of_getElem? (i := 8) (by decide +kernel))) rfl)
theorem flg_RX12_36 : Cond.fieldLink RX12 36 "HayVotesModel" "heat" "[I" ∈ GT := (mem_GT (w := Cond.fieldLink RX12 36 "HayVotesModel" "heat" "[I") (in_t5 (List.mem_of_getElem? (i := 8) (by decide +kernel))) rfl)
theorem fl_RX12_39 : Flk RX12 39 11 14 := .inl (mem_GT (w := Cond.fieldLink RX12 39 "HayVotesModel" "stands" "[Z") (in_t5 (List.mem_of_getElem? (i := 9) (by decide +kernel))) rfl)
theorem flg_RX12_39 : Cond.fieldLink RX12 39 "HayVotesModel" "stands" "[Z" ∈ GT := (mem_GT (w := Cond.fieldLink RX12 39 "HayVotesModel" "stands" "[Z") (in_t5 (List.mem_of_getElem? (i := 9) (by decide +kernel))) rfl)
theorem fl_RX12_43 : Flk RX12 43 11 15 := .inl (mem_GT (w := Cond.fieldLink RX12 43 "HayVotesModel" "cowSquare" "[I") (in_t5 (List.mem_of_getElem? (i := 10) (by decide +kernel))) rfl)
theorem flg_RX12_43 : Cond.fieldLink RX12 43 "HayVotesModel" "cowSquare" "[I" ∈ GT := (mem_GT (w := Cond.fieldLink RX12 43 "HayVotesModel" "cowSquare" "[I") (in_t5 (List.mem_of_getElem? (i := 10) (by decide +kernel))) rfl)
theorem fl_RX12_46 : Flk RX12 46 11 16 := .inl (mem_GT (w := Cond.fieldLink RX12 46 "HayVotesModel" "votesOf" "[I") (in_t5 (List.mem_of_getElem? (i := 11) (by decide +kernel))) rfl)
theorem flg_RX12_46 : Cond.fieldLink RX12 46 "HayVotesModel" "votesOf" "[I" ∈ GT := (mem_GT (w := Cond.fieldLink RX12 46 "HayVotesModel" "votesOf" "[I") (in_t5 (List.mem_of_getElem? (i := 11) (by decide +kernel))) rfl)
theorem fl_RX12_49 : Flk RX12 49 11 17 := .inl (mem_GT (w := Cond.fieldLink RX12 49 "HayVotesModel" "hunger" "[I") (in_t5 (List.mem_of_getElem? (i := 12) (by decide +kernel))) rfl)
theorem flg_RX12_49 : Cond.fieldLink RX12 49 "HayVotesModel" "hunger" "[I" ∈ GT := (mem_GT (w := Cond.fieldLink RX12 49 "HayVotesModel" "hunger" "[I") (in_t5 (List.mem_of_getElem? (i := 12) (by decide +kernel))) rfl)
theorem fl_RX12_52 : Flk RX12 52 11 18 := .inl (mem_GT (w := Cond.fieldLink RX12 52 "HayVotesModel" "lastVote" "[I") (in_t5 (List.mem_of_getElem? (i := 13) (by decide +kernel))) rfl)
theorem flg_RX12_52 : Cond.fieldLink RX12 52 "HayVotesModel" "lastVote" "[I" ∈ GT := (mem_GT (w := Cond.fieldLink RX12 52 "HayVotesModel" "lastVote" "[I") (in_t5 (List.mem_of_getElem? (i := 13) (by decide +kernel))) rfl)
theorem fl_RX12_55 : Flk RX12 55 11 19 := .inl (mem_GT (w := Cond.fieldLink RX12 55 "HayVotesModel" "tastes" "[I") (in_t5 (List.mem_of_getElem? (i := 14) (by decide +kernel))) rfl)
theorem flg_RX12_55 : Cond.fieldLink RX12 55 "HayVotesModel" "tastes" "[I" ∈ GT := (mem_GT (w := Cond.fieldLink RX12 55 "HayVotesModel" "tastes" "[I") (in_t5 (List.mem_of_getElem? (i := 14) (by decide +kernel))) rfl)
theorem fl_RX12_58 : Flk RX12 58 11 20 := .inl (mem_GT (w := Cond.fieldLink RX12 58 "HayVotesModel" "counts" "[I") (in_t5 (List.mem_of_getElem? (i := 15) (by decide +kernel))) rfl)
theorem flg_RX12_58 : Cond.fieldLink RX12 58 "HayVotesModel" "counts" "[I" ∈ GT := (mem_GT (w := Cond.fieldLink RX12 58 "HayVotesModel" "counts" "[I") (in_t5 (List.mem_of_getElem? (i := 15) (by decide +kernel))) rfl)
theorem fl_RX12_61 : Flk RX12 61 11 21 := .inl (mem_GT (w := Cond.fieldLink RX12 61 "HayVotesModel" "eatenBy" "[I") (in_t5 (List.mem_of_getElem? (i := 16) (by decide +kernel))) rfl)
theorem flg_RX12_61 : Cond.fieldLink RX12 61 "HayVotesModel" "eatenBy" "[I" ∈ GT := (mem_GT (w := Cond.fieldLink RX12 61 "HayVotesModel" "eatenBy" "[I") (in_t5 (List.mem_of_getElem? (i := 16) (by decide +kernel))) rfl)
theorem fl_RX12_64 : Flk RX12 64 11 23 := .inl (mem_GT (w := Cond.fieldLink RX12 64 "HayVotesModel" "clauseLetter" "[I") (in_t5 (List.mem_of_getElem? (i := 18) (by decide +kernel))) rfl)
theorem flg_RX12_64 : Cond.fieldLink RX12 64 "HayVotesModel" "clauseLetter" "[I" ∈ GT := (mem_GT (w := Cond.fieldLink RX12 64 "HayVotesModel" "clauseLetter" "[I") (in_t5 (List.mem_of_getElem? (i := 18) (by decide +kernel))) rfl)
theorem fl_RX12_67 : Flk RX12 67 11 24 := .inl (mem_GT (w := Cond.fieldLink RX12 67 "HayVotesModel" "sumFrom" "[I") (in_t5 (List.mem_of_getElem? (i := 19) (by decide +kernel))) rfl)
theorem flg_RX12_67 : Cond.fieldLink RX12 67 "HayVotesModel" "sumFrom" "[I" ∈ GT := (mem_GT (w := Cond.fieldLink RX12 67 "HayVotesModel" "sumFrom" "[I") (in_t5 (List.mem_of_getElem? (i := 19) (by decide +kernel))) rfl)
theorem fl_RX12_70 : Flk RX12 70 11 25 := .inl (mem_GT (w := Cond.fieldLink RX12 70 "HayVotesModel" "codeFrom" "[I") (in_t5 (List.mem_of_getElem? (i := 20) (by decide +kernel))) rfl)
theorem flg_RX12_70 : Cond.fieldLink RX12 70 "HayVotesModel" "codeFrom" "[I" ∈ GT := (mem_GT (w := Cond.fieldLink RX12 70 "HayVotesModel" "codeFrom" "[I") (in_t5 (List.mem_of_getElem? (i := 20) (by decide +kernel))) rfl)
theorem fl_RX12_73 : Flk RX12 73 11 26 := .inl (mem_GT (w := Cond.fieldLink RX12 73 "HayVotesModel" "codeTo" "[I") (in_t5 (List.mem_of_getElem? (i := 21) (by decide +kernel))) rfl)
theorem flg_RX12_73 : Cond.fieldLink RX12 73 "HayVotesModel" "codeTo" "[I" ∈ GT := (mem_GT (w := Cond.fieldLink RX12 73 "HayVotesModel" "codeTo" "[I") (in_t5 (List.mem_of_getElem? (i := 21) (by decide +kernel))) rfl)
theorem fl_RX12_76 : Flk RX12 76 11 27 := .inl (mem_GT (w := Cond.fieldLink RX12 76 "HayVotesModel" "code" "[I") (in_t5 (List.mem_of_getElem? (i := 22) (by decide +kernel))) rfl)
theorem flg_RX12_76 : Cond.fieldLink RX12 76 "HayVotesModel" "code" "[I" ∈ GT := (mem_GT (w := Cond.fieldLink RX12 76 "HayVotesModel" "code" "[I") (in_t5 (List.mem_of_getElem? (i := 22) (by decide +kernel))) rfl)
theorem fl_RX12_79 : Flk RX12 79 11 28 := .inl (mem_GT (w := Cond.fieldLink RX12 79 "HayVotesModel" "codeArg" "[I") (in_t5 (List.mem_of_getElem? (i := 23) (by decide +kernel))) rfl)
theorem flg_RX12_79 : Cond.fieldLink RX12 79 "HayVotesModel" "codeArg" "[I" ∈ GT := (mem_GT (w := Cond.fieldLink RX12 79 "HayVotesModel" "codeArg" "[I") (in_t5 (List.mem_of_getElem? (i := 23) (by decide +kernel))) rfl)
theorem fl_RX12_82 : Flk RX12 82 11 29 := .inl (mem_GT (w := Cond.fieldLink RX12 82 "HayVotesModel" "newLetter" "[I") (in_t5 (List.mem_of_getElem? (i := 24) (by decide +kernel))) rfl)
theorem flg_RX12_82 : Cond.fieldLink RX12 82 "HayVotesModel" "newLetter" "[I" ∈ GT := (mem_GT (w := Cond.fieldLink RX12 82 "HayVotesModel" "newLetter" "[I") (in_t5 (List.mem_of_getElem? (i := 24) (by decide +kernel))) rfl)
theorem fl_RX12_85 : Flk RX12 85 11 30 := .inl (mem_GT (w := Cond.fieldLink RX12 85 "HayVotesModel" "newSum" "[I") (in_t5 (List.mem_of_getElem? (i := 25) (by decide +kernel))) rfl)
theorem flg_RX12_85 : Cond.fieldLink RX12 85 "HayVotesModel" "newSum" "[I" ∈ GT := (mem_GT (w := Cond.fieldLink RX12 85 "HayVotesModel" "newSum" "[I") (in_t5 (List.mem_of_getElem? (i := 25) (by decide +kernel))) rfl)
theorem fl_RX12_88 : Flk RX12 88 11 31 := .inl (mem_GT (w := Cond.fieldLink RX12 88 "HayVotesModel" "newFrom" "[I") (in_t5 (List.mem_of_getElem? (i := 26) (by decide +kernel))) rfl)
theorem flg_RX12_88 : Cond.fieldLink RX12 88 "HayVotesModel" "newFrom" "[I" ∈ GT := (mem_GT (w := Cond.fieldLink RX12 88 "HayVotesModel" "newFrom" "[I") (in_t5 (List.mem_of_getElem? (i := 26) (by decide +kernel))) rfl)
theorem fl_RX12_91 : Flk RX12 91 11 32 := .inl (mem_GT (w := Cond.fieldLink RX12 91 "HayVotesModel" "newTo" "[I") (in_t5 (List.mem_of_getElem? (i := 27) (by decide +kernel))) rfl)
theorem flg_RX12_91 : Cond.fieldLink RX12 91 "HayVotesModel" "newTo" "[I" ∈ GT := (mem_GT (w := Cond.fieldLink RX12 91 "HayVotesModel" "newTo" "[I") (in_t5 (List.mem_of_getElem? (i := 27) (by decide +kernel))) rfl)
theorem fl_RX12_94 : Flk RX12 94 11 33 := .inl (mem_GT (w := Cond.fieldLink RX12 94 "HayVotesModel" "newCode" "[I") (in_t5 (List.mem_of_getElem? (i := 28) (by decide +kernel))) rfl)
theorem flg_RX12_94 : Cond.fieldLink RX12 94 "HayVotesModel" "newCode" "[I" ∈ GT := (mem_GT (w := Cond.fieldLink RX12 94 "HayVotesModel" "newCode" "[I") (in_t5 (List.mem_of_getElem? (i := 28) (by decide +kernel))) rfl)
theorem fl_RX12_97 : Flk RX12 97 11 34 := .inl (mem_GT (w := Cond.fieldLink RX12 97 "HayVotesModel" "newArg" "[I") (in_t5 (List.mem_of_getElem? (i := 29) (by decide +kernel))) rfl)
theorem flg_RX12_97 : Cond.fieldLink RX12 97 "HayVotesModel" "newArg" "[I" ∈ GT := (mem_GT (w := Cond.fieldLink RX12 97 "HayVotesModel" "newArg" "[I") (in_t5 (List.mem_of_getElem? (i := 29) (by decide +kernel))) rfl)
theorem fl_RX12_100 : Flk RX12 100 11 44 := .inl (mem_GT (w := Cond.fieldLink RX12 100 "HayVotesModel" "pile" "[I") (in_t5 (List.mem_of_getElem? (i := 39) (by decide +kernel))) rfl)
theorem flg_RX12_100 : Cond.fieldLink RX12 100 "HayVotesModel" "pile" "[I" ∈ GT := (mem_GT (w := Cond.fieldLink RX12 100 "HayVotesModel" "pile" "[I") (in_t5 (List.mem_of_getElem? (i := 39) (by decide +kernel))) rfl)
theorem fl_RX12_103 : Flk RX12 103 11 47 := .inl (mem_GT (w := Cond.fieldLink RX12 103 "HayVotesModel" "worths" "[I") (in_t5 (List.mem_of_getElem? (i := 42) (by decide +kernel))) rfl)
theorem flg_RX12_103 : Cond.fieldLink RX12 103 "HayVotesModel" "worths" "[I" ∈ GT := (mem_GT (w := Cond.fieldLink RX12 103 "HayVotesModel" "worths" "[I") (in_t5 (List.mem_of_getElem? (i := 42) (by decide +kernel))) rfl)
theorem fl_RX12_106 : Flk RX12 106 11 48 := .inl (mem_GT (w := Cond.fieldLink RX12 106 "HayVotesModel" "isRefused" "[Z") (in_t5 (List.mem_of_getElem? (i := 43) (by decide +kernel))) rfl)
theorem flg_RX12_106 : Cond.fieldLink RX12 106 "HayVotesModel" "isRefused" "[Z" ∈ GT := (mem_GT (w := Cond.fieldLink RX12 106 "HayVotesModel" "isRefused" "[Z") (in_t5 (List.mem_of_getElem? (i := 43) (by decide +kernel))) rfl)
theorem fl_RX12_109 : Flk RX12 109 11 49 := .inl (mem_GT (w := Cond.fieldLink RX12 109 "HayVotesModel" "ateAt" "[I") (in_t5 (List.mem_of_getElem? (i := 44) (by decide +kernel))) rfl)
theorem flg_RX12_109 : Cond.fieldLink RX12 109 "HayVotesModel" "ateAt" "[I" ∈ GT := (mem_GT (w := Cond.fieldLink RX12 109 "HayVotesModel" "ateAt" "[I") (in_t5 (List.mem_of_getElem? (i := 44) (by decide +kernel))) rfl)
theorem fl_RX12_112 : Flk RX12 112 11 52 := .inl (mem_GT (w := Cond.fieldLink RX12 112 "HayVotesModel" "sideSquare" "[I") (in_t5 (List.mem_of_getElem? (i := 47) (by decide +kernel))) rfl)
theorem flg_RX12_112 : Cond.fieldLink RX12 112 "HayVotesModel" "sideSquare" "[I" ∈ GT := (mem_GT (w := Cond.fieldLink RX12 112 "HayVotesModel" "sideSquare" "[I") (in_t5 (List.mem_of_getElem? (i := 47) (by decide +kernel))) rfl)
theorem fl_RX12_115 : Flk RX12 115 11 53 := .inl (mem_GT (w := Cond.fieldLink RX12 115 "HayVotesModel" "sideColour" "[I") (in_t5 (List.mem_of_getElem? (i := 48) (by decide +kernel))) rfl)
theorem flg_RX12_115 : Cond.fieldLink RX12 115 "HayVotesModel" "sideColour" "[I" ∈ GT := (mem_GT (w := Cond.fieldLink RX12 115 "HayVotesModel" "sideColour" "[I") (in_t5 (List.mem_of_getElem? (i := 48) (by decide +kernel))) rfl)
theorem fl_RX12_118 : Flk RX12 118 11 54 := .inl (mem_GT (w := Cond.fieldLink RX12 118 "HayVotesModel" "sideHay" "[I") (in_t5 (List.mem_of_getElem? (i := 49) (by decide +kernel))) rfl)
theorem flg_RX12_118 : Cond.fieldLink RX12 118 "HayVotesModel" "sideHay" "[I" ∈ GT := (mem_GT (w := Cond.fieldLink RX12 118 "HayVotesModel" "sideHay" "[I") (in_t5 (List.mem_of_getElem? (i := 49) (by decide +kernel))) rfl)
theorem fl_RX12_121 : Flk RX12 121 11 55 := .inl (mem_GT (w := Cond.fieldLink RX12 121 "HayVotesModel" "sideClover" "[I") (in_t5 (List.mem_of_getElem? (i := 50) (by decide +kernel))) rfl)
theorem flg_RX12_121 : Cond.fieldLink RX12 121 "HayVotesModel" "sideClover" "[I" ∈ GT := (mem_GT (w := Cond.fieldLink RX12 121 "HayVotesModel" "sideClover" "[I") (in_t5 (List.mem_of_getElem? (i := 50) (by decide +kernel))) rfl)
theorem fl_RX12_124 : Flk RX12 124 11 56 := .inl (mem_GT (w := Cond.fieldLink RX12 124 "HayVotesModel" "sideDamp" "[I") (in_t5 (List.mem_of_getElem? (i := 51) (by decide +kernel))) rfl)
theorem flg_RX12_124 : Cond.fieldLink RX12 124 "HayVotesModel" "sideDamp" "[I" ∈ GT := (mem_GT (w := Cond.fieldLink RX12 124 "HayVotesModel" "sideDamp" "[I") (in_t5 (List.mem_of_getElem? (i := 51) (by decide +kernel))) rfl)
theorem fl_RX12_127 : Flk RX12 127 11 57 := .inl (mem_GT (w := Cond.fieldLink RX12 127 "HayVotesModel" "sideHeat" "[I") (in_t5 (List.mem_of_getElem? (i := 52) (by decide +kernel))) rfl)
theorem flg_RX12_127 : Cond.fieldLink RX12 127 "HayVotesModel" "sideHeat" "[I" ∈ GT := (mem_GT (w := Cond.fieldLink RX12 127 "HayVotesModel" "sideHeat" "[I") (in_t5 (List.mem_of_getElem? (i := 52) (by decide +kernel))) rfl)
theorem fl_RX12_130 : Flk RX12 130 11 58 := .inl (mem_GT (w := Cond.fieldLink RX12 130 "HayVotesModel" "sideStands" "[Z") (in_t5 (List.mem_of_getElem? (i := 53) (by decide +kernel))) rfl)
theorem flg_RX12_130 : Cond.fieldLink RX12 130 "HayVotesModel" "sideStands" "[Z" ∈ GT := (mem_GT (w := Cond.fieldLink RX12 130 "HayVotesModel" "sideStands" "[Z") (in_t5 (List.mem_of_getElem? (i := 53) (by decide +kernel))) rfl)
theorem fl_RX12_133 : Flk RX12 133 11 59 := .inl (mem_GT (w := Cond.fieldLink RX12 133 "HayVotesModel" "sideCow" "[I") (in_t5 (List.mem_of_getElem? (i := 54) (by decide +kernel))) rfl)
theorem flg_RX12_133 : Cond.fieldLink RX12 133 "HayVotesModel" "sideCow" "[I" ∈ GT := (mem_GT (w := Cond.fieldLink RX12 133 "HayVotesModel" "sideCow" "[I") (in_t5 (List.mem_of_getElem? (i := 54) (by decide +kernel))) rfl)
theorem fl_RX12_136 : Flk RX12 136 11 60 := .inl (mem_GT (w := Cond.fieldLink RX12 136 "HayVotesModel" "sideVotes" "[I") (in_t5 (List.mem_of_getElem? (i := 55) (by decide +kernel))) rfl)
theorem flg_RX12_136 : Cond.fieldLink RX12 136 "HayVotesModel" "sideVotes" "[I" ∈ GT := (mem_GT (w := Cond.fieldLink RX12 136 "HayVotesModel" "sideVotes" "[I") (in_t5 (List.mem_of_getElem? (i := 55) (by decide +kernel))) rfl)
theorem fl_RX12_139 : Flk RX12 139 11 61 := .inl (mem_GT (w := Cond.fieldLink RX12 139 "HayVotesModel" "sideHunger" "[I") (in_t5 (List.mem_of_getElem? (i := 56) (by decide +kernel))) rfl)
theorem flg_RX12_139 : Cond.fieldLink RX12 139 "HayVotesModel" "sideHunger" "[I" ∈ GT := (mem_GT (w := Cond.fieldLink RX12 139 "HayVotesModel" "sideHunger" "[I") (in_t5 (List.mem_of_getElem? (i := 56) (by decide +kernel))) rfl)
theorem fl_RX12_142 : Flk RX12 142 11 62 := .inl (mem_GT (w := Cond.fieldLink RX12 142 "HayVotesModel" "sideLast" "[I") (in_t5 (List.mem_of_getElem? (i := 57) (by decide +kernel))) rfl)
theorem flg_RX12_142 : Cond.fieldLink RX12 142 "HayVotesModel" "sideLast" "[I" ∈ GT := (mem_GT (w := Cond.fieldLink RX12 142 "HayVotesModel" "sideLast" "[I") (in_t5 (List.mem_of_getElem? (i := 57) (by decide +kernel))) rfl)
theorem fl_RX12_145 : Flk RX12 145 11 63 := .inl (mem_GT (w := Cond.fieldLink RX12 145 "HayVotesModel" "sideTaste" "[I") (in_t5 (List.mem_of_getElem? (i := 58) (by decide +kernel))) rfl)
theorem flg_RX12_145 : Cond.fieldLink RX12 145 "HayVotesModel" "sideTaste" "[I" ∈ GT := (mem_GT (w := Cond.fieldLink RX12 145 "HayVotesModel" "sideTaste" "[I") (in_t5 (List.mem_of_getElem? (i := 58) (by decide +kernel))) rfl)
theorem fl_RX12_148 : Flk RX12 148 11 64 := .inl (mem_GT (w := Cond.fieldLink RX12 148 "HayVotesModel" "sideCount" "[I") (in_t5 (List.mem_of_getElem? (i := 59) (by decide +kernel))) rfl)
theorem flg_RX12_148 : Cond.fieldLink RX12 148 "HayVotesModel" "sideCount" "[I" ∈ GT := (mem_GT (w := Cond.fieldLink RX12 148 "HayVotesModel" "sideCount" "[I") (in_t5 (List.mem_of_getElem? (i := 59) (by decide +kernel))) rfl)
theorem fl_RX12_151 : Flk RX12 151 11 65 := .inl (mem_GT (w := Cond.fieldLink RX12 151 "HayVotesModel" "sideEaten" "[I") (in_t5 (List.mem_of_getElem? (i := 60) (by decide +kernel))) rfl)
theorem flg_RX12_151 : Cond.fieldLink RX12 151 "HayVotesModel" "sideEaten" "[I" ∈ GT := (mem_GT (w := Cond.fieldLink RX12 151 "HayVotesModel" "sideEaten" "[I") (in_t5 (List.mem_of_getElem? (i := 60) (by decide +kernel))) rfl)
theorem fl_RX12_154 : Flk RX12 154 11 66 := .inl (mem_GT (w := Cond.fieldLink RX12 154 "HayVotesModel" "sideNumbers" "[I") (in_t5 (List.mem_of_getElem? (i := 61) (by decide +kernel))) rfl)
theorem flg_RX12_154 : Cond.fieldLink RX12 154 "HayVotesModel" "sideNumbers" "[I" ∈ GT := (mem_GT (w := Cond.fieldLink RX12 154 "HayVotesModel" "sideNumbers" "[I") (in_t5 (List.mem_of_getElem? (i := 61) (by decide +kernel))) rfl)
theorem fl_RX12_157 : Flk RX12 157 11 67 := .inl (mem_GT (w := Cond.fieldLink RX12 157 "HayVotesModel" "got" "[I") (in_t5 (List.mem_of_getElem? (i := 62) (by decide +kernel))) rfl)
theorem flg_RX12_157 : Cond.fieldLink RX12 157 "HayVotesModel" "got" "[I" ∈ GT := (mem_GT (w := Cond.fieldLink RX12 157 "HayVotesModel" "got" "[I") (in_t5 (List.mem_of_getElem? (i := 62) (by decide +kernel))) rfl)
theorem fl_RX12_160 : Flk RX12 160 11 68 := .inl (mem_GT (w := Cond.fieldLink RX12 160 "HayVotesModel" "some" "[I") (in_t5 (List.mem_of_getElem? (i := 63) (by decide +kernel))) rfl)
theorem flg_RX12_160 : Cond.fieldLink RX12 160 "HayVotesModel" "some" "[I" ∈ GT := (mem_GT (w := Cond.fieldLink RX12 160 "HayVotesModel" "some" "[I") (in_t5 (List.mem_of_getElem? (i := 63) (by decide +kernel))) rfl)
theorem fl_RX12_164 : Flk RX12 164 11 70 := .inl (mem_GT (w := Cond.fieldLink RX12 164 "HayVotesModel" "votesIn" "[I") (in_t5 (List.mem_of_getElem? (i := 65) (by decide +kernel))) rfl)
theorem flg_RX12_164 : Cond.fieldLink RX12 164 "HayVotesModel" "votesIn" "[I" ∈ GT := (mem_GT (w := Cond.fieldLink RX12 164 "HayVotesModel" "votesIn" "[I") (in_t5 (List.mem_of_getElem? (i := 65) (by decide +kernel))) rfl)
theorem fl_RX12_167 : Flk RX12 167 11 71 := .inl (mem_GT (w := Cond.fieldLink RX12 167 "HayVotesModel" "votesHere" "[I") (in_t5 (List.mem_of_getElem? (i := 66) (by decide +kernel))) rfl)
theorem flg_RX12_167 : Cond.fieldLink RX12 167 "HayVotesModel" "votesHere" "[I" ∈ GT := (mem_GT (w := Cond.fieldLink RX12 167 "HayVotesModel" "votesHere" "[I") (in_t5 (List.mem_of_getElem? (i := 66) (by decide +kernel))) rfl)
theorem fl_RX12_170 : Flk RX12 170 11 72 := .inl (mem_GT (w := Cond.fieldLink RX12 170 "HayVotesModel" "pushes" "[J") (in_t5 (List.mem_of_getElem? (i := 67) (by decide +kernel))) rfl)
theorem flg_RX12_170 : Cond.fieldLink RX12 170 "HayVotesModel" "pushes" "[J" ∈ GT := (mem_GT (w := Cond.fieldLink RX12 170 "HayVotesModel" "pushes" "[J") (in_t5 (List.mem_of_getElem? (i := 67) (by decide +kernel))) rfl)
theorem fl_RX12_174 : Flk RX12 174 11 73 := .inl (mem_GT (w := Cond.fieldLink RX12 174 "HayVotesModel" "pushesThen" "[J") (in_t5 (List.mem_of_getElem? (i := 68) (by decide +kernel))) rfl)
theorem flg_RX12_174 : Cond.fieldLink RX12 174 "HayVotesModel" "pushesThen" "[J" ∈ GT := (mem_GT (w := Cond.fieldLink RX12 174 "HayVotesModel" "pushesThen" "[J") (in_t5 (List.mem_of_getElem? (i := 68) (by decide +kernel))) rfl)
theorem fl_RX12_177 : Flk RX12 177 11 74 := .inl (mem_GT (w := Cond.fieldLink RX12 177 "HayVotesModel" "wordCow" "[I") (in_t5 (List.mem_of_getElem? (i := 69) (by decide +kernel))) rfl)
theorem flg_RX12_177 : Cond.fieldLink RX12 177 "HayVotesModel" "wordCow" "[I" ∈ GT := (mem_GT (w := Cond.fieldLink RX12 177 "HayVotesModel" "wordCow" "[I") (in_t5 (List.mem_of_getElem? (i := 69) (by decide +kernel))) rfl)
theorem fl_RX12_180 : Flk RX12 180 11 75 := .inl (mem_GT (w := Cond.fieldLink RX12 180 "HayVotesModel" "wordStack" "[I") (in_t5 (List.mem_of_getElem? (i := 70) (by decide +kernel))) rfl)
theorem flg_RX12_180 : Cond.fieldLink RX12 180 "HayVotesModel" "wordStack" "[I" ∈ GT := (mem_GT (w := Cond.fieldLink RX12 180 "HayVotesModel" "wordStack" "[I") (in_t5 (List.mem_of_getElem? (i := 70) (by decide +kernel))) rfl)
theorem fl_RX12_183 : Flk RX12 183 11 76 := .inl (mem_GT (w := Cond.fieldLink RX12 183 "HayVotesModel" "wordDay" "[I") (in_t5 (List.mem_of_getElem? (i := 71) (by decide +kernel))) rfl)
theorem flg_RX12_183 : Cond.fieldLink RX12 183 "HayVotesModel" "wordDay" "[I" ∈ GT := (mem_GT (w := Cond.fieldLink RX12 183 "HayVotesModel" "wordDay" "[I") (in_t5 (List.mem_of_getElem? (i := 71) (by decide +kernel))) rfl)
theorem fl_RX12_192 : Flk RX12 192 11 2 := .inl (mem_GT (w := Cond.fieldLink RX12 192 "HayVotesModel" "stacks" "I") (in_t4 (List.mem_of_getElem? (i := 237) (by decide +kernel))) rfl)
theorem fl_RX12_199 : Flk RX12 199 11 3 := .inl (mem_GT (w := Cond.fieldLink RX12 199 "HayVotesModel" "cows" "I") (in_t4 (List.mem_of_getElem? (i := 238) (by decide +kernel))) rfl)
theorem fl_RX12_225 : Flk RX12 225 11 7 := .inl (mem_GT (w := Cond.fieldLink RX12 225 "HayVotesModel" "saltDay" "I") (in_t5 (List.mem_of_getElem? (i := 2) (by decide +kernel))) rfl)
theorem fl_RX12_228 : Flk RX12 228 11 1 := .inl (mem_GT (w := Cond.fieldLink RX12 228 "HayVotesModel" "taped" "I") (in_t4 (List.mem_of_getElem? (i := 236) (by decide +kernel))) rfl)
theorem fl_RX12_235 : Flk RX12 235 11 35 := .inl (mem_GT (w := Cond.fieldLink RX12 235 "HayVotesModel" "place" "I") (in_t5 (List.mem_of_getElem? (i := 30) (by decide +kernel))) rfl)
theorem fl_RX12_238 : Flk RX12 238 11 36 := .inl (mem_GT (w := Cond.fieldLink RX12 238 "HayVotesModel" "end" "I") (in_t5 (List.mem_of_getElem? (i := 31) (by decide +kernel))) rfl)
theorem fl_RX12_241 : Flk RX12 241 11 37 := .inl (mem_GT (w := Cond.fieldLink RX12 241 "HayVotesModel" "bad" "I") (in_t5 (List.mem_of_getElem? (i := 32) (by decide +kernel))) rfl)
theorem fl_RX12_248 : Flk RX12 248 11 39 := .inl (mem_GT (w := Cond.fieldLink RX12 248 "HayVotesModel" "codes" "I") (in_t5 (List.mem_of_getElem? (i := 34) (by decide +kernel))) rfl)
theorem fl_RX12_251 : Flk RX12 251 11 41 := .inl (mem_GT (w := Cond.fieldLink RX12 251 "HayVotesModel" "stacked" "I") (in_t5 (List.mem_of_getElem? (i := 36) (by decide +kernel))) rfl)
theorem fl_RX12_254 : Flk RX12 254 11 40 := .inl (mem_GT (w := Cond.fieldLink RX12 254 "HayVotesModel" "open" "I") (in_t5 (List.mem_of_getElem? (i := 35) (by decide +kernel))) rfl)
theorem fl_RX12_300 : Flk RX12 300 11 43 := .inl (mem_GT (w := Cond.fieldLink RX12 300 "HayVotesModel" "isBehind" "Z") (in_t5 (List.mem_of_getElem? (i := 38) (by decide +kernel))) rfl)
theorem fl_RX12_322 : Flk RX12 322 11 42 := .inl (mem_GT (w := Cond.fieldLink RX12 322 "HayVotesModel" "isOver" "Z") (in_t5 (List.mem_of_getElem? (i := 37) (by decide +kernel))) rfl)
theorem fl_RX12_331 : Flk RX12 331 11 38 := .inl (mem_GT (w := Cond.fieldLink RX12 331 "HayVotesModel" "clauses" "I") (in_t5 (List.mem_of_getElem? (i := 33) (by decide +kernel))) rfl)
theorem fl_RX12_342 : Flk RX12 342 11 22 := .inl (mem_GT (w := Cond.fieldLink RX12 342 "HayVotesModel" "clauseMany" "I") (in_t5 (List.mem_of_getElem? (i := 17) (by decide +kernel))) rfl)
theorem fl_RX12_349 : Flk RX12 349 11 46 := .inl (mem_GT (w := Cond.fieldLink RX12 349 "HayVotesModel" "atCow" "I") (in_t5 (List.mem_of_getElem? (i := 41) (by decide +kernel))) rfl)
theorem fl_RX12_352 : Flk RX12 352 11 45 := .inl (mem_GT (w := Cond.fieldLink RX12 352 "HayVotesModel" "atStack" "I") (in_t5 (List.mem_of_getElem? (i := 40) (by decide +kernel))) rfl)
theorem fl_RX12_359 : Flk RX12 359 11 4 := .inl (mem_GT (w := Cond.fieldLink RX12 359 "HayVotesModel" "day" "I") (in_t4 (List.mem_of_getElem? (i := 239) (by decide +kernel))) rfl)
theorem fl_RX12_390 : Flk RX12 390 11 51 := .inl (mem_GT (w := Cond.fieldLink RX12 390 "HayVotesModel" "eatenToday" "I") (in_t5 (List.mem_of_getElem? (i := 46) (by decide +kernel))) rfl)
theorem fl_RX12_393 : Flk RX12 393 11 50 := .inl (mem_GT (w := Cond.fieldLink RX12 393 "HayVotesModel" "burnt" "I") (in_t5 (List.mem_of_getElem? (i := 45) (by decide +kernel))) rfl)
theorem fl_RX12_425 : Flk RX12 425 11 69 := .inl (mem_GT (w := Cond.fieldLink RX12 425 "HayVotesModel" "someMany" "I") (in_t5 (List.mem_of_getElem? (i := 64) (by decide +kernel))) rfl)
theorem fl_RX12_493 : Flk RX12 493 11 77 := .inl (mem_GT (w := Cond.fieldLink RX12 493 "HayVotesModel" "isKept" "Z") (in_t5 (List.mem_of_getElem? (i := 72) (by decide +kernel))) rfl)
theorem sl_RJ0_9 : Cond.fieldLink RJ0 9 "java/lang/String" "value" "[B" ∈ GT := (mem_GT (w := Cond.fieldLink RJ0 9 "java/lang/String" "value" "[B") (in_t7 (List.mem_of_getElem? (i := 138) (by decide +kernel))) rfl)
theorem sl_RJ0_15 : Cond.fieldLink RJ0 15 "java/lang/String" "coder" "B" ∈ GT := (mem_GT (w := Cond.fieldLink RJ0 15 "java/lang/String" "coder" "B") (in_t7 (List.mem_of_getElem? (i := 137) (by decide +kernel))) rfl)
theorem sl_RJ0_38 : Cond.fieldLink RJ0 38 "java/lang/String" "COMPACT_STRINGS" "Z" ∈ GT := (mem_GT (w := Cond.fieldLink RJ0 38 "java/lang/String" "COMPACT_STRINGS" "Z") (in_t3 (List.mem_of_getElem? (i := 54) (by decide +kernel))) rfl)
theorem gc_RX11_298 : Cond.constant RX11 298 65535 ∈ GT := (mem_GT (w := Cond.constant RX11 298 65535) (in_t4 (List.mem_of_getElem? (i := 190) (by decide +kernel))) rfl)
theorem gc_RX5_143 : Cond.constant RX5 143 65536 ∈ GT := (mem_GT (w := Cond.constant RX5 143 65536) (in_t4 (List.mem_of_getElem? (i := 199) (by decide +kernel))) rfl)
theorem gc_RX12_163 : Cond.constant RX12 163 65536 ∈ GT := (mem_GT (w := Cond.constant RX12 163 65536) (in_t4 (List.mem_of_getElem? (i := 234) (by decide +kernel))) rfl)
theorem gc_RX12_467 : Cond.constant RX12 467 1000000000 ∈ GT := (mem_GT (w := Cond.constant RX12 467 1000000000) (in_t7 (List.mem_of_getElem? (i := 64) (by decide +kernel))) rfl)
theorem gl_RX11_243 : Cond.constantLong RX11 243 (-1) ∈ GT := (mem_GT (w := Cond.constantLong RX11 243 (-1)) (in_t4 (List.mem_of_getElem? (i := 84) (by decide +kernel))) rfl)
theorem gl_RX12_186 : Cond.constantLong RX12 186 9 ∈ GT := (mem_GT (w := Cond.constantLong RX12 186 9) (in_t5 (List.mem_of_getElem? (i := 238) (by decide +kernel))) rfl)
theorem gl_RX12_202 : Cond.constantLong RX12 202 4 ∈ GT := (mem_GT (w := Cond.constantLong RX12 202 4) (in_t6 (List.mem_of_getElem? (i := 5) (by decide +kernel))) rfl)
theorem gl_RX12_204 : Cond.constantLong RX12 204 99 ∈ GT := (mem_GT (w := Cond.constantLong RX12 204 99) (in_t6 (List.mem_of_getElem? (i := 10) (by decide +kernel))) rfl)
theorem gl_RX12_212 : Cond.constantLong RX12 212 999 ∈ GT := (mem_GT (w := Cond.constantLong RX12 212 999) (in_t6 (List.mem_of_getElem? (i := 6) (by decide +kernel))) rfl)
theorem gl_RX12_220 : Cond.constantLong RX12 220 (-9) ∈ GT := (mem_GT (w := Cond.constantLong RX12 220 (-9)) (in_t6 (List.mem_of_getElem? (i := 23) (by decide +kernel))) rfl)
theorem gl_RX12_268 : Cond.constantLong RX12 268 48 ∈ GT := (mem_GT (w := Cond.constantLong RX12 268 48) (in_t6 (List.mem_of_getElem? (i := 85) (by decide +kernel))) rfl)
theorem gl_RX12_270 : Cond.constantLong RX12 270 57 ∈ GT := (mem_GT (w := Cond.constantLong RX12 270 57) (in_t6 (List.mem_of_getElem? (i := 86) (by decide +kernel))) rfl)
theorem gl_RX12_337 : Cond.constantLong RX12 337 200 ∈ GT := (mem_GT (w := Cond.constantLong RX12 337 200) (in_t6 (List.mem_of_getElem? (i := 48) (by decide +kernel))) rfl)
theorem gl_RX12_396 : Cond.constantLong RX12 396 20 ∈ GT := (mem_GT (w := Cond.constantLong RX12 396 20) (in_t6 (List.mem_of_getElem? (i := 195) (by decide +kernel))) rfl)
theorem gl_RX12_407 : Cond.constantLong RX12 407 6 ∈ GT := (mem_GT (w := Cond.constantLong RX12 407 6) (in_t6 (List.mem_of_getElem? (i := 204) (by decide +kernel))) rfl)
theorem gl_RX12_409 : Cond.constantLong RX12 409 10 ∈ GT := (mem_GT (w := Cond.constantLong RX12 409 10) (in_t6 (List.mem_of_getElem? (i := 205) (by decide +kernel))) rfl)
theorem gl_RX12_423 : Cond.constantLong RX12 423 14 ∈ GT := (mem_GT (w := Cond.constantLong RX12 423 14) (in_t6 (List.mem_of_getElem? (i := 234) (by decide +kernel))) rfl)
theorem gl_RX12_431 : Cond.constantLong RX12 431 (-1) ∈ GT := (mem_GT (w := Cond.constantLong RX12 431 (-1)) (in_t7 (List.mem_of_getElem? (i := 7) (by decide +kernel))) rfl)
theorem gl_RX12_433 : Cond.constantLong RX12 433 3 ∈ GT := (mem_GT (w := Cond.constantLong RX12 433 3) (in_t7 (List.mem_of_getElem? (i := 8) (by decide +kernel))) rfl)
theorem gl_RX12_465 : Cond.constantLong RX12 465 2 ∈ GT := (mem_GT (w := Cond.constantLong RX12 465 2) (in_t7 (List.mem_of_getElem? (i := 59) (by decide +kernel))) rfl)
theorem gl_RX12_468 : Cond.constantLong RX12 468 12 ∈ GT := (mem_GT (w := Cond.constantLong RX12 468 12) (in_t7 (List.mem_of_getElem? (i := 69) (by decide +kernel))) rfl)
theorem gl_RX12_470 : Cond.constantLong RX12 470 30 ∈ GT := (mem_GT (w := Cond.constantLong RX12 470 30) (in_t7 (List.mem_of_getElem? (i := 70) (by decide +kernel))) rfl)
theorem gl_RX12_488 : Cond.constantLong RX12 488 65535 ∈ GT := (mem_GT (w := Cond.constantLong RX12 488 65535) (in_t7 (List.mem_of_getElem? (i := 103) (by decide +kernel))) rfl)
theorem gl_RX12_499 : Cond.constantLong RX12 499 16 ∈ GT := (mem_GT (w := Cond.constantLong RX12 499 16) (in_t7 (List.mem_of_getElem? (i := 128) (by decide +kernel))) rfl)
theorem cl_RX11_7 : Cond.classLink RX11 7 RX5 ∈ GT := (mem_GT (w := Cond.classLink RX11 7 RX5) (in_t1 (List.mem_of_getElem? (i := 28) (by decide +kernel))) rfl)
theorem cl_RX11_22 : Cond.classLink RX11 22 RX9 ∈ GT := (mem_GT (w := Cond.classLink RX11 22 RX9) (in_t1 (List.mem_of_getElem? (i := 200) (by decide +kernel))) rfl)
theorem cl_RX11_29 : Cond.classLink RX11 29 RX4 ∈ GT := (mem_GT (w := Cond.classLink RX11 29 RX4) (in_t1 (List.mem_of_getElem? (i := 215) (by decide +kernel))) rfl)
theorem cl_RX11_38 : Cond.classLink RX11 38 RX0 ∈ GT := (mem_GT (w := Cond.classLink RX11 38 RX0) (in_t1 (List.mem_of_getElem? (i := 237) (by decide +kernel))) rfl)
theorem cl_RX11_47 : Cond.classLink RX11 47 RX10 ∈ GT := (mem_GT (w := Cond.classLink RX11 47 RX10) (in_t2 (List.mem_of_getElem? (i := 18) (by decide +kernel))) rfl)
theorem cl_RX11_54 : Cond.classLink RX11 54 RX2 ∈ GT := (mem_GT (w := Cond.classLink RX11 54 RX2) (in_t2 (List.mem_of_getElem? (i := 55) (by decide +kernel))) rfl)
theorem cl_RX11_61 : Cond.classLink RX11 61 RX6 ∈ GT := (mem_GT (w := Cond.classLink RX11 61 RX6) (in_t2 (List.mem_of_getElem? (i := 65) (by decide +kernel))) rfl)
theorem cl_RX11_68 : Cond.classLink RX11 68 RX3 ∈ GT := (mem_GT (w := Cond.classLink RX11 68 RX3) (in_t2 (List.mem_of_getElem? (i := 83) (by decide +kernel))) rfl)
theorem cl_RX5_9 : Cond.classLink RX5 9 RX7 ∈ GT := (mem_GT (w := Cond.classLink RX5 9 RX7) (in_t1 (List.mem_of_getElem? (i := 34) (by decide +kernel))) rfl)
theorem cl_RX5_17 : Cond.classLink RX5 17 RX1 ∈ GT := (mem_GT (w := Cond.classLink RX5 17 RX1) (in_t1 (List.mem_of_getElem? (i := 36) (by decide +kernel))) rfl)
theorem cl_RL_7 : Cond.classLink RL 7 RX11 ∈ GT := (mem_GT (w := Cond.classLink RL 7 RX11) (in_t1 (List.mem_of_getElem? (i := 20) (by decide +kernel))) rfl)
theorem cl_RL_10 : Cond.classLink RL 10 RX12 ∈ GT := (mem_GT (w := Cond.classLink RL 10 RX12) (in_t4 (List.mem_of_getElem? (i := 228) (by decide +kernel))) rfl)
theorem nins_0 : Cond.instantiable RX0 4 ∈ GT := (mem_GT (w := Cond.instantiable RX0 4) (in_t1 (List.mem_of_getElem? (i := 238) (by decide +kernel))) rfl)
theorem nini_0 : Cond.initialized RX0 ∈ GT := (mem_GT (w := Cond.initialized RX0) (in_t1 (List.mem_of_getElem? (i := 7) (by decide +kernel))) rfl)
theorem ndf_0 : ∀ j, j < (cl3 0).2.2 → (fk 0)[j]? = some (kdD ((cl3 0).2.1 j).2.2.1) ∧ defaultValue (tyX0 j) = dfv (kdD ((cl3 0).2.1 j).2.2.1) := by decide +kernel
theorem nins_1 : Cond.instantiable RX1 6 ∈ GT := (mem_GT (w := Cond.instantiable RX1 6) (in_t1 (List.mem_of_getElem? (i := 98) (by decide +kernel))) rfl)
theorem nini_1 : Cond.initialized RX1 ∈ GT := (mem_GT (w := Cond.initialized RX1) (in_t1 (List.mem_of_getElem? (i := 4) (by decide +kernel))) rfl)
theorem ndf_1 : ∀ j, j < (cl3 1).2.2 → (fk 1)[j]? = some (kdD ((cl3 1).2.1 j).2.2.1) ∧ defaultValue (tyX1 j) = dfv (kdD ((cl3 1).2.1 j).2.2.1) := by decide +kernel
theorem nins_2 : Cond.instantiable RX2 1 ∈ GT := (mem_GT (w := Cond.instantiable RX2 1) (in_t2 (List.mem_of_getElem? (i := 56) (by decide +kernel))) rfl)
theorem nini_2 : Cond.initialized RX2 ∈ GT := (mem_GT (w := Cond.initialized RX2) (in_t1 (List.mem_of_getElem? (i := 9) (by decide +kernel))) rfl)
theorem ndf_2 : ∀ j, j < (cl3 2).2.2 → (fk 2)[j]? = some (kdD ((cl3 2).2.1 j).2.2.1) ∧ defaultValue (tyX2 j) = dfv (kdD ((cl3 2).2.1 j).2.2.1) := by decide +kernel
theorem nins_3 : Cond.instantiable RX3 13 ∈ GT := (mem_GT (w := Cond.instantiable RX3 13) (in_t2 (List.mem_of_getElem? (i := 84) (by decide +kernel))) rfl)
theorem nini_3 : Cond.initialized RX3 ∈ GT := (mem_GT (w := Cond.initialized RX3) (in_t1 (List.mem_of_getElem? (i := 11) (by decide +kernel))) rfl)
theorem ndf_3 : ∀ j, j < (cl3 3).2.2 → (fk 3)[j]? = some (kdD ((cl3 3).2.1 j).2.2.1) ∧ defaultValue (tyX3 j) = dfv (kdD ((cl3 3).2.1 j).2.2.1) := by decide +kernel
theorem nins_4 : Cond.instantiable RX4 5 ∈ GT := (mem_GT (w := Cond.instantiable RX4 5) (in_t1 (List.mem_of_getElem? (i := 216) (by decide +kernel))) rfl)
theorem nini_4 : Cond.initialized RX4 ∈ GT := (mem_GT (w := Cond.initialized RX4) (in_t1 (List.mem_of_getElem? (i := 6) (by decide +kernel))) rfl)
theorem ndf_4 : ∀ j, j < (cl3 4).2.2 → (fk 4)[j]? = some (kdD ((cl3 4).2.1 j).2.2.1) ∧ defaultValue (tyX4 j) = dfv (kdD ((cl3 4).2.1 j).2.2.1) := by decide +kernel
theorem nins_5 : Cond.instantiable RX5 12 ∈ GT := (mem_GT (w := Cond.instantiable RX5 12) (in_t1 (List.mem_of_getElem? (i := 29) (by decide +kernel))) rfl)
theorem nini_5 : Cond.initialized RX5 ∈ GT := (mem_GT (w := Cond.initialized RX5) (in_t1 (List.mem_of_getElem? (i := 2) (by decide +kernel))) rfl)
theorem ndf_5 : ∀ j, j < (cl3 5).2.2 → (fk 5)[j]? = some (kdD ((cl3 5).2.1 j).2.2.1) ∧ defaultValue (tyX5 j) = dfv (kdD ((cl3 5).2.1 j).2.2.1) := by decide +kernel
theorem nins_6 : Cond.instantiable RX6 3 ∈ GT := (mem_GT (w := Cond.instantiable RX6 3) (in_t2 (List.mem_of_getElem? (i := 66) (by decide +kernel))) rfl)
theorem nini_6 : Cond.initialized RX6 ∈ GT := (mem_GT (w := Cond.initialized RX6) (in_t1 (List.mem_of_getElem? (i := 10) (by decide +kernel))) rfl)
theorem ndf_6 : ∀ j, j < (cl3 6).2.2 → (fk 6)[j]? = some (kdD ((cl3 6).2.1 j).2.2.1) ∧ defaultValue (tyX6 j) = dfv (kdD ((cl3 6).2.1 j).2.2.1) := by decide +kernel
theorem nins_7 : Cond.instantiable RX7 9 ∈ GT := (mem_GT (w := Cond.instantiable RX7 9) (in_t1 (List.mem_of_getElem? (i := 38) (by decide +kernel))) rfl)
theorem nini_7 : Cond.initialized RX7 ∈ GT := (mem_GT (w := Cond.initialized RX7) (in_t1 (List.mem_of_getElem? (i := 3) (by decide +kernel))) rfl)
theorem ndf_7 : ∀ j, j < (cl3 7).2.2 → (fk 7)[j]? = some (kdD ((cl3 7).2.1 j).2.2.1) ∧ defaultValue (tyX7 j) = dfv (kdD ((cl3 7).2.1 j).2.2.1) := by decide +kernel
theorem nins_8 : Cond.instantiable RX9 2 ∈ GT := (mem_GT (w := Cond.instantiable RX9 2) (in_t1 (List.mem_of_getElem? (i := 201) (by decide +kernel))) rfl)
theorem nini_8 : Cond.initialized RX9 ∈ GT := (mem_GT (w := Cond.initialized RX9) (in_t1 (List.mem_of_getElem? (i := 5) (by decide +kernel))) rfl)
theorem ndf_8 : ∀ j, j < (cl3 8).2.2 → (fk 8)[j]? = some (kdD ((cl3 8).2.1 j).2.2.1) ∧ defaultValue (tyX9 j) = dfv (kdD ((cl3 8).2.1 j).2.2.1) := by decide +kernel
theorem nins_9 : Cond.instantiable RX10 9 ∈ GT := (mem_GT (w := Cond.instantiable RX10 9) (in_t2 (List.mem_of_getElem? (i := 19) (by decide +kernel))) rfl)
theorem nini_9 : Cond.initialized RX10 ∈ GT := (mem_GT (w := Cond.initialized RX10) (in_t1 (List.mem_of_getElem? (i := 8) (by decide +kernel))) rfl)
theorem ndf_9 : ∀ j, j < (cl3 9).2.2 → (fk 9)[j]? = some (kdD ((cl3 9).2.1 j).2.2.1) ∧ defaultValue (tyX10 j) = dfv (kdD ((cl3 9).2.1 j).2.2.1) := by decide +kernel
theorem nins_10 : Cond.instantiable RX11 12 ∈ GT := (mem_GT (w := Cond.instantiable RX11 12) (in_t1 (List.mem_of_getElem? (i := 21) (by decide +kernel))) rfl)
theorem nini_10 : Cond.initialized RX11 ∈ GT := (mem_GT (w := Cond.initialized RX11) (in_t1 (List.mem_of_getElem? (i := 1) (by decide +kernel))) rfl)
theorem ndf_10 : ∀ j, j < (cl3 10).2.2 → (fk 10)[j]? = some (kdD ((cl3 10).2.1 j).2.2.1) ∧ defaultValue (tyX11 j) = dfv (kdD ((cl3 10).2.1 j).2.2.1) := by decide +kernel
theorem nins_11 : Cond.instantiable RX12 78 ∈ GT := (mem_GT (w := Cond.instantiable RX12 78) (in_t4 (List.mem_of_getElem? (i := 229) (by decide +kernel))) rfl)
theorem nini_11 : Cond.initialized RX12 ∈ GT := (mem_GT (w := Cond.initialized RX12) (in_t1 (List.mem_of_getElem? (i := 12) (by decide +kernel))) rfl)
theorem ndf_11 : ∀ j, j < (cl3 11).2.2 → (fk 11)[j]? = some (kdD ((cl3 11).2.1 j).2.2.1) ∧ defaultValue (tyX12 j) = dfv (kdD ((cl3 11).2.1 j).2.2.1) := by decide +kernel
/-- the four methods that call one another, dd calls deep -/
def RecOk (l : Launch) (E : En) (dd : Nat) (rc : Nat → Nat → Int32 → Mm → Prop → Int32 × Mm × Prop) : Prop := (∀ (a : Nat) (b : Int32) (m : Mm) (o : Prop), Mt wI l E yX4_condition (mi_X4_condition dd) [.ref a, .int b] m o (rc 0 a b m o)) ∧ (∀ (a : Nat) (b : Int32) (m : Mm) (o : Prop), Mt wI l E yX4_piece (mi_X4_piece dd) [.ref a, .int b] m o (rc 1 a b m o)) ∧ (∀ (a : Nat) (b : Int32) (m : Mm) (o : Prop), Mt wI l E yX4_expression (mi_X4_expression dd) [.ref a, .int b] m o (rc 2 a b m o)) ∧ (∀ (a : Nat) (b : Int32) (m : Mm) (o : Prop), Mt wI l E yX4_factor (mi_X4_factor dd) [.ref a, .int b] m o (rc 3 a b m o))
