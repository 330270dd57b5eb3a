def wsX12_fault_r3 : List Cond := [Cond.code yX12_readsCell cX12_readsCell 1 (some .boolean), Cond.methodLink RX12 104 yX12_reads, Cond.instanceMethod yX12_reads, Cond.selects RX12 yX12_reads yX12_reads, Cond.code yX12_reads cX12_reads 4 (some .boolean), Cond.methodLink RX12 131 yX12_readsGrating, Cond.instanceMethod yX12_readsGrating, Cond.selects RX12 yX12_readsGrating yX12_readsGrating, Cond.code yX12_readsGrating cX12_readsGrating 1 (some .boolean), Cond.methodLink RX12 112 yX12_readBit, Cond.instanceMethod yX12_readBit, Cond.selects RX12 yX12_readBit yX12_readBit, Cond.code yX12_readBit cX12_readBit 1 (some .int), Cond.methodLink RX12 134 yX12_readsKind, Cond.instanceMethod yX12_readsKind, Cond.selects RX12 yX12_readsKind yX12_readsKind, Cond.code yX12_readsKind cX12_readsKind 2 (some .boolean), Cond.fieldLink RX12 50 "SlopeCoinsModel" "readKind" "[I"]
def wsX12_fault : List Cond := .code yX12_fault cX12_fault 2 (some .int) :: ((wsX12_fault_r1 ++ (wsX12_fault_r2 ++ wsX12_fault_r3)) ++ wsX120)
def wsX12_city_r1 : List Cond := [Cond.fieldLink RX12 98 "SlopeCoinsModel" "readWide" "I", Cond.fieldLink RX12 143 "SlopeCoinsModel" "wide" "I", Cond.fieldLink RX12 101 "SlopeCoinsModel" "readHigh" "I", Cond.fieldLink RX12 146 "SlopeCoinsModel" "high" "I", Cond.fieldLink RX12 119 "SlopeCoinsModel" "readKinds" "I", Cond.fieldLink RX12 149 "SlopeCoinsModel" "kinds" "I", Cond.fieldLink RX12 116 "SlopeCoinsModel" "readGratingMany" "I", Cond.fieldLink RX12 152 "SlopeCoinsModel" "gratingMany" "I", Cond.fieldLink RX12 26 "SlopeCoinsModel" "kerbs" "[I", Cond.fieldLink RX12 44 "SlopeCoinsModel" "readKerbs" "[I", Cond.fieldLink RX12 20 "SlopeCoinsModel" "told" "[I", Cond.fieldLink RX12 41 "SlopeCoinsModel" "readHeights" "[I", Cond.fieldLink RX12 23 "SlopeCoinsModel" "gratings" "[I", Cond.fieldLink RX12 47 "SlopeCoinsModel" "readGratings" "[I", Cond.fieldLink RX12 29 "SlopeCoinsModel" "sizes" "[I", Cond.fieldLink RX12 50 "SlopeCoinsModel" "readKind" "[I", Cond.fieldLink RX12 32 "SlopeCoinsModel" "worths" "[I", Cond.fieldLink RX12 35 "SlopeCoinsModel" "forged" "[I", Cond.fieldLink RX12 7 "SlopeCoinsModel" "row" "[I", Cond.constantLong RX12 155 (30), Cond.fieldLink RX12 13 "SlopeCoinsModel" "isKept" "[Z", Cond.fieldLink RX12 157 "SlopeCoinsModel" "seenMany" "I", Cond.fieldLink RX12 72 "SlopeCoinsModel" "length" "I", Cond.fieldLink RX12 122 "SlopeCoinsModel" "readMany" "I"]
def wsX12_city_r2 : List Cond := [Cond.methodLink RX12 140 yX12_fault, Cond.instanceMethod yX12_fault, Cond.selects RX12 yX12_fault yX12_fault, Cond.initialized RX12, Cond.code yX12_fault cX12_fault 2 (some .int), Cond.fieldLink RX12 75 "SlopeCoinsModel" "at" "I", Cond.fieldLink RX12 81 "SlopeCoinsModel" "place" "I", Cond.methodLink RX12 95 yX12_token, Cond.instanceMethod yX12_token, Cond.selects RX12 yX12_token yX12_token, Cond.code yX12_token cX12_token 1 none, Cond.fieldLink RX12 17 "SlopeCoinsModel" "text" "[I", Cond.fieldLink RX12 88 "SlopeCoinsModel" "end" "I", Cond.methodLink RX12 78 yX12_skip, Cond.instanceMethod yX12_skip, Cond.selects RX12 yX12_skip yX12_skip, Cond.code yX12_skip cX12_skip 1 none, Cond.methodLink RX12 84 yX12_sort, Cond.static yX12_sort, Cond.code yX12_sort cX12_sort 1 (some .int), Cond.methodLink RX12 137 yX12_readsItem, Cond.instanceMethod yX12_readsItem, Cond.selects RX12 yX12_readsItem yX12_readsItem, Cond.code yX12_readsItem cX12_readsItem 4 (some .boolean)]
def wsX12_city_r3 : List Cond := [Cond.methodLink RX12 125 yX12_readsHeights, Cond.instanceMethod yX12_readsHeights, Cond.selects RX12 yX12_readsHeights yX12_readsHeights, Cond.code yX12_readsHeights cX12_readsHeights 2 (some .boolean), Cond.fieldLink RX12 53 "SlopeCoinsModel" "numbers" "[I", Cond.methodLink RX12 91 yX12_number, Cond.instanceMethod yX12_number, Cond.selects RX12 yX12_number yX12_number, Cond.code yX12_number cX12_number 5 (some .int), Cond.methodLink RX12 68 yX12_in, Cond.static yX12_in, Cond.code yX12_in cX12_in 6 (some .boolean), Cond.methodLink RX12 128 yX12_readsKerb, Cond.instanceMethod yX12_readsKerb, Cond.selects RX12 yX12_readsKerb yX12_readsKerb, Cond.code yX12_readsKerb cX12_readsKerb 3 (some .boolean), Cond.methodLink RX12 108 yX12_readsCell, Cond.instanceMethod yX12_readsCell, Cond.selects RX12 yX12_readsCell yX12_readsCell, Cond.code yX12_readsCell cX12_readsCell 1 (some .boolean), Cond.methodLink RX12 104 yX12_reads, Cond.instanceMethod yX12_reads, Cond.selects RX12 yX12_reads yX12_reads, Cond.code yX12_reads cX12_reads 4 (some .boolean)]
def wsX12_city_r4 : List Cond := [Cond.methodLink RX12 131 yX12_readsGrating, Cond.instanceMethod yX12_readsGrating, Cond.selects RX12 yX12_readsGrating yX12_readsGrating, Cond.code yX12_readsGrating cX12_readsGrating 1 (some .boolean), Cond.methodLink RX12 112 yX12_readBit, Cond.instanceMethod yX12_readBit, Cond.selects RX12 yX12_readBit yX12_readBit, Cond.code yX12_readBit cX12_readBit 1 (some .int), Cond.methodLink RX12 134 yX12_readsKind, Cond.instanceMethod yX12_readsKind, Cond.selects RX12 yX12_readsKind yX12_readsKind, Cond.code yX12_readsKind cX12_readsKind 2 (some .boolean)]
def wsX12_city : List Cond := .code yX12_city cX12_city 3 (some .int) :: ((wsX12_city_r1 ++ (wsX12_city_r2 ++ (wsX12_city_r3 ++ wsX12_city_r4))) ++ wsX120)
def wsX12_isCell : List Cond := .code yX12_isCell cX12_isCell 3 (some .boolean) :: ([.fieldLink RX12 143 "SlopeCoinsModel" "wide" "I", .fieldLink RX12 146 "SlopeCoinsModel" "high" "I", .methodLink RX12 68 yX12_in, .static yX12_in, .initialized RX12, .code yX12_in cX12_in 6 (some .boolean)] ++ wsX120)
def wsX12_bit : List Cond := .code yX12_bit cX12_bit 3 (some .int) :: ([.fieldLink RX12 143 "SlopeCoinsModel" "wide" "I"] ++ wsX120)
def wsX12_cells : List Cond := .code yX12_cells cX12_cells 1 (some .int) :: ([.fieldLink RX12 143 "SlopeCoinsModel" "wide" "I", .fieldLink RX12 146 "SlopeCoinsModel" "high" "I"] ++ wsX120)
def wsX12_pairOf : List Cond := .code yX12_pairOf cX12_pairOf 2 (some .int) :: ([.fieldLink RX12 143 "SlopeCoinsModel" "wide" "I"] ++ wsX120)
def wsX12_isPair : List Cond := .code yX12_isPair cX12_isPair 2 (some .boolean) :: ([.methodLink RX12 160 yX12_isCell, .instanceMethod yX12_isCell, .selects RX12 yX12_isCell yX12_isCell, .initialized RX12, .code yX12_isCell cX12_isCell 3 (some .boolean), .fieldLink RX12 143 "SlopeCoinsModel" "wide" "I", .fieldLink RX12 146 "SlopeCoinsModel" "high" "I", .methodLink RX12 68 yX12_in, .static yX12_in, .code yX12_in cX12_in 6 (some .boolean)] ++ wsX120)
def wsX12_bitOf : List Cond := .code yX12_bitOf cX12_bitOf 2 (some .int) :: ([.methodLink RX12 164 yX12_bit, .instanceMethod yX12_bit, .selects RX12 yX12_bit yX12_bit, .initialized RX12, .code yX12_bit cX12_bit 3 (some .int), .fieldLink RX12 143 "SlopeCoinsModel" "wide" "I"] ++ wsX120)
def wsX12_isKind : List Cond := .code yX12_isKind cX12_isKind 2 (some .boolean) :: ([.fieldLink RX12 149 "SlopeCoinsModel" "kinds" "I", .methodLink RX12 68 yX12_in, .static yX12_in, .initialized RX12, .code yX12_in cX12_in 6 (some .boolean)] ++ wsX120)
def wsX12_isPlank : List Cond := .code yX12_isPlank cX12_isPlank 2 (some .boolean) :: ([.fieldLink RX12 7 "SlopeCoinsModel" "row" "[I"] ++ wsX120)
def wsX12_setPlank : List Cond := .code yX12_setPlank cX12_setPlank 2 none :: ([.fieldLink RX12 7 "SlopeCoinsModel" "row" "[I"] ++ wsX120)
def wsX12_liesOn : List Cond := .code yX12_liesOn cX12_liesOn 2 (some .int) :: ([.fieldLink RX12 7 "SlopeCoinsModel" "row" "[I", .constant RX12 167 (1048575)] ++ wsX120)
def wsX12_isEdge : List Cond := .code yX12_isEdge cX12_isEdge 5 (some .boolean) :: ([.fieldLink RX12 143 "SlopeCoinsModel" "wide" "I", .fieldLink RX12 146 "SlopeCoinsModel" "high" "I"] ++ wsX120)
def wsX12_beside : List Cond := .code yX12_beside cX12_beside 3 (some .int) :: ([.fieldLink RX12 143 "SlopeCoinsModel" "wide" "I"] ++ wsX120)
def wsX12_sideOf : List Cond := .code yX12_sideOf cX12_sideOf 3 (some .int) :: ([.fieldLink RX12 143 "SlopeCoinsModel" "wide" "I"] ++ wsX120)
def wsX12_isKerb : List Cond := .code yX12_isKerb cX12_isKerb 2 (some .boolean) :: ([.fieldLink RX12 26 "SlopeCoinsModel" "kerbs" "[I", .methodLink RX12 168 yX12_has, .static yX12_has, .initialized RX12, .code yX12_has cX12_has 2 (some .boolean)] ++ wsX120)
def wsX12_isShut_r1 : List Cond := [Cond.fieldLink RX12 56 "SlopeCoinsModel" "triedOne" "I", Cond.fieldLink RX12 60 "SlopeCoinsModel" "triedTwo" "I", Cond.methodLink RX12 171 yX12_isEdge, Cond.instanceMethod yX12_isEdge, Cond.selects RX12 yX12_isEdge yX12_isEdge, Cond.initialized RX12, Cond.code yX12_isEdge cX12_isEdge 5 (some .boolean), Cond.fieldLink RX12 143 "SlopeCoinsModel" "wide" "I", Cond.fieldLink RX12 146 "SlopeCoinsModel" "high" "I", Cond.methodLink RX12 174 yX12_sideOf, Cond.instanceMethod yX12_sideOf, Cond.selects RX12 yX12_sideOf yX12_sideOf, Cond.code yX12_sideOf cX12_sideOf 3 (some .int), Cond.methodLink RX12 177 yX12_isKerb, Cond.instanceMethod yX12_isKerb, Cond.selects RX12 yX12_isKerb yX12_isKerb, Cond.code yX12_isKerb cX12_isKerb 2 (some .boolean), Cond.fieldLink RX12 26 "SlopeCoinsModel" "kerbs" "[I", Cond.methodLink RX12 168 yX12_has, Cond.static yX12_has, Cond.code yX12_has cX12_has 2 (some .boolean), Cond.methodLink RX12 181 yX12_isPlank, Cond.instanceMethod yX12_isPlank, Cond.selects RX12 yX12_isPlank yX12_isPlank]
def wsX12_isShut_r2 : List Cond := [Cond.code yX12_isPlank cX12_isPlank 2 (some .boolean), Cond.fieldLink RX12 7 "SlopeCoinsModel" "row" "[I"]
def wsX12_isShut : List Cond := .code yX12_isShut cX12_isShut 4 (some .boolean) :: ((wsX12_isShut_r1 ++ wsX12_isShut_r2) ++ wsX120)
def wsX12_shutWays_r1 : List Cond := [Cond.methodLink RX12 184 yX12_isShut, Cond.instanceMethod yX12_isShut, Cond.selects RX12 yX12_isShut yX12_isShut, Cond.initialized RX12, Cond.code yX12_isShut cX12_isShut 4 (some .boolean), Cond.fieldLink RX12 56 "SlopeCoinsModel" "triedOne" "I", Cond.fieldLink RX12 60 "SlopeCoinsModel" "triedTwo" "I", Cond.methodLink RX12 171 yX12_isEdge, Cond.instanceMethod yX12_isEdge, Cond.selects RX12 yX12_isEdge yX12_isEdge, Cond.code yX12_isEdge cX12_isEdge 5 (some .boolean), Cond.fieldLink RX12 143 "SlopeCoinsModel" "wide" "I", Cond.fieldLink RX12 146 "SlopeCoinsModel" "high" "I", Cond.methodLink RX12 174 yX12_sideOf, Cond.instanceMethod yX12_sideOf, Cond.selects RX12 yX12_sideOf yX12_sideOf, Cond.code yX12_sideOf cX12_sideOf 3 (some .int), Cond.methodLink RX12 177 yX12_isKerb, Cond.instanceMethod yX12_isKerb, Cond.selects RX12 yX12_isKerb yX12_isKerb, Cond.code yX12_isKerb cX12_isKerb 2 (some .boolean), Cond.fieldLink RX12 26 "SlopeCoinsModel" "kerbs" "[I", Cond.methodLink RX12 168 yX12_has, Cond.static yX12_has]
def wsX12_shutWays_r2 : List Cond := [Cond.code yX12_has cX12_has 2 (some .boolean), Cond.methodLink RX12 181 yX12_isPlank, Cond.instanceMethod yX12_isPlank, Cond.selects RX12 yX12_isPlank yX12_isPlank, Cond.code yX12_isPlank cX12_isPlank 2 (some .boolean), Cond.fieldLink RX12 7 "SlopeCoinsModel" "row" "[I"]
def wsX12_shutWays : List Cond := .code yX12_shutWays cX12_shutWays 4 (some .int) :: ((wsX12_shutWays_r1 ++ wsX12_shutWays_r2) ++ wsX120)
def wsX12_wayFrom_r1 : List Cond := [Cond.fieldLink RX12 7 "SlopeCoinsModel" "row" "[I", Cond.methodLink RX12 184 yX12_isShut, Cond.instanceMethod yX12_isShut, Cond.selects RX12 yX12_isShut yX12_isShut, Cond.initialized RX12, Cond.code yX12_isShut cX12_isShut 4 (some .boolean), Cond.fieldLink RX12 56 "SlopeCoinsModel" "triedOne" "I", Cond.fieldLink RX12 60 "SlopeCoinsModel" "triedTwo" "I", Cond.methodLink RX12 171 yX12_isEdge, Cond.instanceMethod yX12_isEdge, Cond.selects RX12 yX12_isEdge yX12_isEdge, Cond.code yX12_isEdge cX12_isEdge 5 (some .boolean), Cond.fieldLink RX12 143 "SlopeCoinsModel" "wide" "I", Cond.fieldLink RX12 146 "SlopeCoinsModel" "high" "I", Cond.methodLink RX12 174 yX12_sideOf, Cond.instanceMethod yX12_sideOf, Cond.selects RX12 yX12_sideOf yX12_sideOf, Cond.code yX12_sideOf cX12_sideOf 3 (some .int), Cond.methodLink RX12 177 yX12_isKerb, Cond.instanceMethod yX12_isKerb, Cond.selects RX12 yX12_isKerb yX12_isKerb, Cond.code yX12_isKerb cX12_isKerb 2 (some .boolean), Cond.fieldLink RX12 26 "SlopeCoinsModel" "kerbs" "[I", Cond.methodLink RX12 168 yX12_has]
def wsX12_wayFrom_r2 : List Cond := [Cond.static yX12_has, Cond.code yX12_has cX12_has 2 (some .boolean), Cond.methodLink RX12 181 yX12_isPlank, Cond.instanceMethod yX12_isPlank, Cond.selects RX12 yX12_isPlank yX12_isPlank, Cond.code yX12_isPlank cX12_isPlank 2 (some .boolean), Cond.methodLink RX12 187 yX12_beside, Cond.instanceMethod yX12_beside, Cond.selects RX12 yX12_beside yX12_beside, Cond.code yX12_beside cX12_beside 3 (some .int)]
def wsX12_wayFrom : List Cond := .code yX12_wayFrom cX12_wayFrom 10 (some .int) :: ((wsX12_wayFrom_r1 ++ wsX12_wayFrom_r2) ++ wsX120)
def wsX12_roll_r1 : List Cond := [Cond.fieldLink RX12 190 "SlopeCoinsModel" "steps" "I", Cond.fieldLink RX12 193 "SlopeCoinsModel" "past" "I", Cond.fieldLink RX12 23 "SlopeCoinsModel" "gratings" "[I", Cond.fieldLink RX12 200 "SlopeCoinsModel" "ended" "I", Cond.methodLink RX12 196 yX12_wayFrom, Cond.instanceMethod yX12_wayFrom, Cond.selects RX12 yX12_wayFrom yX12_wayFrom, Cond.initialized RX12, Cond.code yX12_wayFrom cX12_wayFrom 10 (some .int), Cond.fieldLink RX12 7 "SlopeCoinsModel" "row" "[I", Cond.methodLink RX12 184 yX12_isShut, Cond.instanceMethod yX12_isShut, Cond.selects RX12 yX12_isShut yX12_isShut, Cond.code yX12_isShut cX12_isShut 4 (some .boolean), Cond.fieldLink RX12 56 "SlopeCoinsModel" "triedOne" "I", Cond.fieldLink RX12 60 "SlopeCoinsModel" "triedTwo" "I", Cond.methodLink RX12 171 yX12_isEdge, Cond.instanceMethod yX12_isEdge, Cond.selects RX12 yX12_isEdge yX12_isEdge, Cond.code yX12_isEdge cX12_isEdge 5 (some .boolean), Cond.fieldLink RX12 143 "SlopeCoinsModel" "wide" "I", Cond.fieldLink RX12 146 "SlopeCoinsModel" "high" "I", Cond.methodLink RX12 174 yX12_sideOf, Cond.instanceMethod yX12_sideOf]
def wsX12_roll_r2 : List Cond := [Cond.selects RX12 yX12_sideOf yX12_sideOf, Cond.code yX12_sideOf cX12_sideOf 3 (some .int), Cond.methodLink RX12 177 yX12_isKerb, Cond.instanceMethod yX12_isKerb, Cond.selects RX12 yX12_isKerb yX12_isKerb, Cond.code yX12_isKerb cX12_isKerb 2 (some .boolean), Cond.fieldLink RX12 26 "SlopeCoinsModel" "kerbs" "[I", Cond.methodLink RX12 168 yX12_has, Cond.static yX12_has, Cond.code yX12_has cX12_has 2 (some .boolean), Cond.methodLink RX12 181 yX12_isPlank, Cond.instanceMethod yX12_isPlank, Cond.selects RX12 yX12_isPlank yX12_isPlank, Cond.code yX12_isPlank cX12_isPlank 2 (some .boolean), Cond.methodLink RX12 187 yX12_beside, Cond.instanceMethod yX12_beside, Cond.selects RX12 yX12_beside yX12_beside, Cond.code yX12_beside cX12_beside 3 (some .int)]
def wsX12_roll : List Cond := .code yX12_roll cX12_roll 7 none :: ((wsX12_roll_r1 ++ wsX12_roll_r2) ++ wsX120)
def wsX12_rollKind_r1 : List Cond := [Cond.fieldLink RX12 29 "SlopeCoinsModel" "sizes" "[I", Cond.fieldLink RX12 35 "SlopeCoinsModel" "forged" "[I", Cond.methodLink RX12 203 yX12_roll, Cond.instanceMethod yX12_roll, Cond.selects RX12 yX12_roll yX12_roll, Cond.initialized RX12, Cond.code yX12_roll cX12_roll 7 none, Cond.fieldLink RX12 190 "SlopeCoinsModel" "steps" "I", Cond.fieldLink RX12 193 "SlopeCoinsModel" "past" "I", Cond.fieldLink RX12 23 "SlopeCoinsModel" "gratings" "[I", Cond.fieldLink RX12 200 "SlopeCoinsModel" "ended" "I", Cond.methodLink RX12 196 yX12_wayFrom, Cond.instanceMethod yX12_wayFrom, Cond.selects RX12 yX12_wayFrom yX12_wayFrom, Cond.code yX12_wayFrom cX12_wayFrom 10 (some .int), Cond.fieldLink RX12 7 "SlopeCoinsModel" "row" "[I", Cond.methodLink RX12 184 yX12_isShut, Cond.instanceMethod yX12_isShut, Cond.selects RX12 yX12_isShut yX12_isShut, Cond.code yX12_isShut cX12_isShut 4 (some .boolean), Cond.fieldLink RX12 56 "SlopeCoinsModel" "triedOne" "I", Cond.fieldLink RX12 60 "SlopeCoinsModel" "triedTwo" "I", Cond.methodLink RX12 171 yX12_isEdge, Cond.instanceMethod yX12_isEdge]
def wsX12_rollKind_r2 : List Cond := [Cond.selects RX12 yX12_isEdge yX12_isEdge, Cond.code yX12_isEdge cX12_isEdge 5 (some .boolean), Cond.fieldLink RX12 143 "SlopeCoinsModel" "wide" "I", Cond.fieldLink RX12 146 "SlopeCoinsModel" "high" "I", Cond.methodLink RX12 174 yX12_sideOf, Cond.instanceMethod yX12_sideOf, Cond.selects RX12 yX12_sideOf yX12_sideOf, Cond.code yX12_sideOf cX12_sideOf 3 (some .int), Cond.methodLink RX12 177 yX12_isKerb, Cond.instanceMethod yX12_isKerb, Cond.selects RX12 yX12_isKerb yX12_isKerb, Cond.code yX12_isKerb cX12_isKerb 2 (some .boolean), Cond.fieldLink RX12 26 "SlopeCoinsModel" "kerbs" "[I", Cond.methodLink RX12 168 yX12_has, Cond.static yX12_has, Cond.code yX12_has cX12_has 2 (some .boolean), Cond.methodLink RX12 181 yX12_isPlank, Cond.instanceMethod yX12_isPlank, Cond.selects RX12 yX12_isPlank yX12_isPlank, Cond.code yX12_isPlank cX12_isPlank 2 (some .boolean), Cond.methodLink RX12 187 yX12_beside, Cond.instanceMethod yX12_beside, Cond.selects RX12 yX12_beside yX12_beside, Cond.code yX12_beside cX12_beside 3 (some .int)]
def wsX12_rollKind : List Cond := .code yX12_rollKind cX12_rollKind 3 none :: ((wsX12_rollKind_r1 ++ wsX12_rollKind_r2) ++ wsX120)
def wsX12_toldEnd : List Cond := .code yX12_toldEnd cX12_toldEnd 1 (some .int) :: ([.fieldLink RX12 200 "SlopeCoinsModel" "ended" "I", .methodLink RX12 207 yX12_pairOf, .instanceMethod yX12_pairOf, .selects RX12 yX12_pairOf yX12_pairOf, .initialized RX12, .code yX12_pairOf cX12_pairOf 2 (some .int), .fieldLink RX12 143 "SlopeCoinsModel" "wide" "I"] ++ wsX120)
def wsX12_endOf_r1 : List Cond := [Cond.fieldLink RX12 200 "SlopeCoinsModel" "ended" "I", Cond.methodLink RX12 210 yX12_rollKind, Cond.instanceMethod yX12_rollKind, Cond.selects RX12 yX12_rollKind yX12_rollKind, Cond.initialized RX12, Cond.code yX12_rollKind cX12_rollKind 3 none, Cond.fieldLink RX12 29 "SlopeCoinsModel" "sizes" "[I", Cond.fieldLink RX12 35 "SlopeCoinsModel" "forged" "[I", Cond.methodLink RX12 203 yX12_roll, Cond.instanceMethod yX12_roll, Cond.selects RX12 yX12_roll yX12_roll, Cond.code yX12_roll cX12_roll 7 none, Cond.fieldLink RX12 190 "SlopeCoinsModel" "steps" "I", Cond.fieldLink RX12 193 "SlopeCoinsModel" "past" "I", Cond.fieldLink RX12 23 "SlopeCoinsModel" "gratings" "[I", Cond.methodLink RX12 196 yX12_wayFrom, Cond.instanceMethod yX12_wayFrom, Cond.selects RX12 yX12_wayFrom yX12_wayFrom, Cond.code yX12_wayFrom cX12_wayFrom 10 (some .int), Cond.fieldLink RX12 7 "SlopeCoinsModel" "row" "[I", Cond.methodLink RX12 184 yX12_isShut, Cond.instanceMethod yX12_isShut, Cond.selects RX12 yX12_isShut yX12_isShut, Cond.code yX12_isShut cX12_isShut 4 (some .boolean)]
def wsX12_endOf_r2 : List Cond := [Cond.fieldLink RX12 56 "SlopeCoinsModel" "triedOne" "I", Cond.fieldLink RX12 60 "SlopeCoinsModel" "triedTwo" "I", Cond.methodLink RX12 171 yX12_isEdge, Cond.instanceMethod yX12_isEdge, Cond.selects RX12 yX12_isEdge yX12_isEdge, Cond.code yX12_isEdge cX12_isEdge 5 (some .boolean), Cond.fieldLink RX12 143 "SlopeCoinsModel" "wide" "I", Cond.fieldLink RX12 146 "SlopeCoinsModel" "high" "I", Cond.methodLink RX12 174 yX12_sideOf, Cond.instanceMethod yX12_sideOf, Cond.selects RX12 yX12_sideOf yX12_sideOf, Cond.code yX12_sideOf cX12_sideOf 3 (some .int), Cond.methodLink RX12 177 yX12_isKerb, Cond.instanceMethod yX12_isKerb, Cond.selects RX12 yX12_isKerb yX12_isKerb, Cond.code yX12_isKerb cX12_isKerb 2 (some .boolean), Cond.fieldLink RX12 26 "SlopeCoinsModel" "kerbs" "[I", Cond.methodLink RX12 168 yX12_has, Cond.static yX12_has, Cond.code yX12_has cX12_has 2 (some .boolean), Cond.methodLink RX12 181 yX12_isPlank, Cond.instanceMethod yX12_isPlank, Cond.selects RX12 yX12_isPlank yX12_isPlank, Cond.code yX12_isPlank cX12_isPlank 2 (some .boolean)]
def wsX12_endOf_r3 : List Cond := [Cond.methodLink RX12 187 yX12_beside, Cond.instanceMethod yX12_beside, Cond.selects RX12 yX12_beside yX12_beside, Cond.code yX12_beside cX12_beside 3 (some .int)]
def wsX12_endOf : List Cond := .code yX12_endOf cX12_endOf 3 (some .int) :: ((wsX12_endOf_r1 ++ (wsX12_endOf_r2 ++ wsX12_endOf_r3)) ++ wsX120)
def wsX12_cell_r1 : List Cond := [Cond.fieldLink RX12 7 "SlopeCoinsModel" "row" "[I", Cond.fieldLink RX12 23 "SlopeCoinsModel" "gratings" "[I", Cond.methodLink RX12 160 yX12_isCell, Cond.instanceMethod yX12_isCell, Cond.selects RX12 yX12_isCell yX12_isCell, Cond.initialized RX12, Cond.code yX12_isCell cX12_isCell 3 (some .boolean), Cond.fieldLink RX12 143 "SlopeCoinsModel" "wide" "I", Cond.fieldLink RX12 146 "SlopeCoinsModel" "high" "I", Cond.methodLink RX12 68 yX12_in, Cond.static yX12_in, Cond.code yX12_in cX12_in 6 (some .boolean), Cond.methodLink RX12 164 yX12_bit, Cond.instanceMethod yX12_bit, Cond.selects RX12 yX12_bit yX12_bit, Cond.code yX12_bit cX12_bit 3 (some .int), Cond.methodLink RX12 214 yX12_liesOn, Cond.instanceMethod yX12_liesOn, Cond.selects RX12 yX12_liesOn yX12_liesOn, Cond.code yX12_liesOn cX12_liesOn 2 (some .int), Cond.constant RX12 167 (1048575), Cond.methodLink RX12 217 yX12_shutWays, Cond.instanceMethod yX12_shutWays, Cond.selects RX12 yX12_shutWays yX12_shutWays]
def wsX12_cell_r2 : List Cond := [Cond.code yX12_shutWays cX12_shutWays 4 (some .int), Cond.methodLink RX12 184 yX12_isShut, Cond.instanceMethod yX12_isShut, Cond.selects RX12 yX12_isShut yX12_isShut, Cond.code yX12_isShut cX12_isShut 4 (some .boolean), Cond.fieldLink RX12 56 "SlopeCoinsModel" "triedOne" "I", Cond.fieldLink RX12 60 "SlopeCoinsModel" "triedTwo" "I", Cond.methodLink RX12 171 yX12_isEdge, Cond.instanceMethod yX12_isEdge, Cond.selects RX12 yX12_isEdge yX12_isEdge, Cond.code yX12_isEdge cX12_isEdge 5 (some .boolean), Cond.methodLink RX12 174 yX12_sideOf, Cond.instanceMethod yX12_sideOf, Cond.selects RX12 yX12_sideOf yX12_sideOf, Cond.code yX12_sideOf cX12_sideOf 3 (some .int), Cond.methodLink RX12 177 yX12_isKerb, Cond.instanceMethod yX12_isKerb, Cond.selects RX12 yX12_isKerb yX12_isKerb, Cond.code yX12_isKerb cX12_isKerb 2 (some .boolean), Cond.fieldLink RX12 26 "SlopeCoinsModel" "kerbs" "[I", Cond.methodLink RX12 168 yX12_has, Cond.static yX12_has, Cond.code yX12_has cX12_has 2 (some .boolean), Cond.methodLink RX12 181 yX12_isPlank]
def wsX12_cell_r3 : List Cond := [Cond.instanceMethod yX12_isPlank, Cond.selects RX12 yX12_isPlank yX12_isPlank, Cond.code yX12_isPlank cX12_isPlank 2 (some .boolean)]
def wsX12_cell : List Cond := .code yX12_cell cX12_cell 5 (some .int) :: ((wsX12_cell_r1 ++ (wsX12_cell_r2 ++ wsX12_cell_r3)) ++ wsX120)
def wsX12_kind : List Cond := .code yX12_kind cX12_kind 3 (some .int) :: ([.fieldLink RX12 29 "SlopeCoinsModel" "sizes" "[I", .fieldLink RX12 32 "SlopeCoinsModel" "worths" "[I", .fieldLink RX12 35 "SlopeCoinsModel" "forged" "[I", .methodLink RX12 220 yX12_isKind, .instanceMethod yX12_isKind, .selects RX12 yX12_isKind yX12_isKind, .initialized RX12, .code yX12_isKind cX12_isKind 2 (some .boolean), .fieldLink RX12 149 "SlopeCoinsModel" "kinds" "I", .methodLink RX12 68 yX12_in, .static yX12_in, .code yX12_in cX12_in 6 (some .boolean)] ++ wsX120)
def wsX12_keepPast : List Cond := .code yX12_keepPast cX12_keepPast 3 none :: ([.fieldLink RX12 7 "SlopeCoinsModel" "row" "[I"] ++ wsX120)
def wsX12_lying : List Cond := .code yX12_lying cX12_lying 3 (some .int) :: ([.methodLink RX12 223 yX12_cells, .instanceMethod yX12_cells, .selects RX12 yX12_cells yX12_cells, .initialized RX12, .code yX12_cells cX12_cells 1 (some .int), .fieldLink RX12 143 "SlopeCoinsModel" "wide" "I", .fieldLink RX12 146 "SlopeCoinsModel" "high" "I", .methodLink RX12 214 yX12_liesOn, .instanceMethod yX12_liesOn, .selects RX12 yX12_liesOn yX12_liesOn, .code yX12_liesOn cX12_liesOn 2 (some .int), .fieldLink RX12 7 "SlopeCoinsModel" "row" "[I", .constant RX12 167 (1048575)] ++ wsX120)
def wsX12_sumFrom : List Cond := .code yX12_sumFrom cX12_sumFrom 4 (some .int) :: ([.fieldLink RX12 7 "SlopeCoinsModel" "row" "[I", .methodLink RX12 223 yX12_cells, .instanceMethod yX12_cells, .selects RX12 yX12_cells yX12_cells, .initialized RX12, .code yX12_cells cX12_cells 1 (some .int), .fieldLink RX12 143 "SlopeCoinsModel" "wide" "I", .fieldLink RX12 146 "SlopeCoinsModel" "high" "I"] ++ wsX120)
def wsX12_lets_r1 : List Cond := [Cond.fieldLink RX12 200 "SlopeCoinsModel" "ended" "I", Cond.fieldLink RX12 7 "SlopeCoinsModel" "row" "[I", Cond.fieldLink RX12 32 "SlopeCoinsModel" "worths" "[I", Cond.methodLink RX12 220 yX12_isKind, Cond.instanceMethod yX12_isKind, Cond.selects RX12 yX12_isKind yX12_isKind, Cond.initialized RX12, Cond.code yX12_isKind cX12_isKind 2 (some .boolean), Cond.fieldLink RX12 149 "SlopeCoinsModel" "kinds" "I", Cond.methodLink RX12 68 yX12_in, Cond.static yX12_in, Cond.code yX12_in cX12_in 6 (some .boolean), Cond.methodLink RX12 160 yX12_isCell, Cond.instanceMethod yX12_isCell, Cond.selects RX12 yX12_isCell yX12_isCell, Cond.code yX12_isCell cX12_isCell 3 (some .boolean), Cond.fieldLink RX12 143 "SlopeCoinsModel" "wide" "I", Cond.fieldLink RX12 146 "SlopeCoinsModel" "high" "I", Cond.methodLink RX12 226 yX12_lying, Cond.instanceMethod yX12_lying, Cond.selects RX12 yX12_lying yX12_lying, Cond.code yX12_lying cX12_lying 3 (some .int), Cond.methodLink RX12 223 yX12_cells, Cond.instanceMethod yX12_cells]
def wsX12_lets_r2 : List Cond := [Cond.selects RX12 yX12_cells yX12_cells, Cond.code yX12_cells cX12_cells 1 (some .int), Cond.methodLink RX12 214 yX12_liesOn, Cond.instanceMethod yX12_liesOn, Cond.selects RX12 yX12_liesOn yX12_liesOn, Cond.code yX12_liesOn cX12_liesOn 2 (some .int), Cond.constant RX12 167 (1048575), Cond.methodLink RX12 229 yX12_sumFrom, Cond.instanceMethod yX12_sumFrom, Cond.selects RX12 yX12_sumFrom yX12_sumFrom, Cond.code yX12_sumFrom cX12_sumFrom 4 (some .int), Cond.methodLink RX12 232 yX12_keepPast, Cond.instanceMethod yX12_keepPast, Cond.selects RX12 yX12_keepPast yX12_keepPast, Cond.code yX12_keepPast cX12_keepPast 3 none, Cond.methodLink RX12 164 yX12_bit, Cond.instanceMethod yX12_bit, Cond.selects RX12 yX12_bit yX12_bit, Cond.code yX12_bit cX12_bit 3 (some .int), Cond.methodLink RX12 210 yX12_rollKind, Cond.instanceMethod yX12_rollKind, Cond.selects RX12 yX12_rollKind yX12_rollKind, Cond.code yX12_rollKind cX12_rollKind 3 none, Cond.fieldLink RX12 29 "SlopeCoinsModel" "sizes" "[I"]
def wsX12_lets_r3 : List Cond := [Cond.fieldLink RX12 35 "SlopeCoinsModel" "forged" "[I", Cond.methodLink RX12 203 yX12_roll, Cond.instanceMethod yX12_roll, Cond.selects RX12 yX12_roll yX12_roll, Cond.code yX12_roll cX12_roll 7 none, Cond.fieldLink RX12 190 "SlopeCoinsModel" "steps" "I", Cond.fieldLink RX12 193 "SlopeCoinsModel" "past" "I", Cond.fieldLink RX12 23 "SlopeCoinsModel" "gratings" "[I", Cond.methodLink RX12 196 yX12_wayFrom, Cond.instanceMethod yX12_wayFrom, Cond.selects RX12 yX12_wayFrom yX12_wayFrom, Cond.code yX12_wayFrom cX12_wayFrom 10 (some .int), Cond.methodLink RX12 184 yX12_isShut, Cond.instanceMethod yX12_isShut, Cond.selects RX12 yX12_isShut yX12_isShut, Cond.code yX12_isShut cX12_isShut 4 (some .boolean), Cond.fieldLink RX12 56 "SlopeCoinsModel" "triedOne" "I", Cond.fieldLink RX12 60 "SlopeCoinsModel" "triedTwo" "I", Cond.methodLink RX12 171 yX12_isEdge, Cond.instanceMethod yX12_isEdge, Cond.selects RX12 yX12_isEdge yX12_isEdge, Cond.code yX12_isEdge cX12_isEdge 5 (some .boolean), Cond.methodLink RX12 174 yX12_sideOf, Cond.instanceMethod yX12_sideOf]
def wsX12_lets_r4 : List Cond := [Cond.selects RX12 yX12_sideOf yX12_sideOf, Cond.code yX12_sideOf cX12_sideOf 3 (some .int), Cond.methodLink RX12 177 yX12_isKerb, Cond.instanceMethod yX12_isKerb, Cond.selects RX12 yX12_isKerb yX12_isKerb, Cond.code yX12_isKerb cX12_isKerb 2 (some .boolean), Cond.fieldLink RX12 26 "SlopeCoinsModel" "kerbs" "[I", Cond.methodLink RX12 168 yX12_has, Cond.static yX12_has, Cond.code yX12_has cX12_has 2 (some .boolean), Cond.methodLink RX12 181 yX12_isPlank, Cond.instanceMethod yX12_isPlank, Cond.selects RX12 yX12_isPlank yX12_isPlank, Cond.code yX12_isPlank cX12_isPlank 2 (some .boolean), Cond.methodLink RX12 187 yX12_beside, Cond.instanceMethod yX12_beside, Cond.selects RX12 yX12_beside yX12_beside, Cond.code yX12_beside cX12_beside 3 (some .int), Cond.methodLink RX12 235 yX12_toldEnd, Cond.instanceMethod yX12_toldEnd, Cond.selects RX12 yX12_toldEnd yX12_toldEnd, Cond.code yX12_toldEnd cX12_toldEnd 1 (some .int), Cond.methodLink RX12 207 yX12_pairOf, Cond.instanceMethod yX12_pairOf]
def wsX12_lets_r5 : List Cond := [Cond.selects RX12 yX12_pairOf yX12_pairOf, Cond.code yX12_pairOf cX12_pairOf 2 (some .int)]
def wsX12_lets : List Cond := .code yX12_lets cX12_lets 6 (some .int) :: ((wsX12_lets_r1 ++ (wsX12_lets_r2 ++ (wsX12_lets_r3 ++ (wsX12_lets_r4 ++ wsX12_lets_r5)))) ++ wsX120)
def wsX12_planksNow : List Cond := .code yX12_planksNow cX12_planksNow 3 (some .int) :: ([.methodLink RX12 181 yX12_isPlank, .instanceMethod yX12_isPlank, .selects RX12 yX12_isPlank yX12_isPlank, .initialized RX12, .code yX12_isPlank cX12_isPlank 2 (some .boolean), .fieldLink RX12 7 "SlopeCoinsModel" "row" "[I"] ++ wsX120)
def wsX12_sets_r1 : List Cond := [Cond.constantLong RX12 238 (3), Cond.methodLink RX12 160 yX12_isCell, Cond.instanceMethod yX12_isCell, Cond.selects RX12 yX12_isCell yX12_isCell, Cond.initialized RX12, Cond.code yX12_isCell cX12_isCell 3 (some .boolean), Cond.fieldLink RX12 143 "SlopeCoinsModel" "wide" "I", Cond.fieldLink RX12 146 "SlopeCoinsModel" "high" "I", Cond.methodLink RX12 68 yX12_in, Cond.static yX12_in, Cond.code yX12_in cX12_in 6 (some .boolean), Cond.methodLink RX12 164 yX12_bit, Cond.instanceMethod yX12_bit, Cond.selects RX12 yX12_bit yX12_bit, Cond.code yX12_bit cX12_bit 3 (some .int), Cond.methodLink RX12 184 yX12_isShut, Cond.instanceMethod yX12_isShut, Cond.selects RX12 yX12_isShut yX12_isShut, Cond.code yX12_isShut cX12_isShut 4 (some .boolean), Cond.fieldLink RX12 56 "SlopeCoinsModel" "triedOne" "I", Cond.fieldLink RX12 60 "SlopeCoinsModel" "triedTwo" "I", Cond.methodLink RX12 171 yX12_isEdge, Cond.instanceMethod yX12_isEdge, Cond.selects RX12 yX12_isEdge yX12_isEdge]
def wsX12_sets_r2 : List Cond := [Cond.code yX12_isEdge cX12_isEdge 5 (some .boolean), Cond.methodLink RX12 174 yX12_sideOf, Cond.instanceMethod yX12_sideOf, Cond.selects RX12 yX12_sideOf yX12_sideOf, Cond.code yX12_sideOf cX12_sideOf 3 (some .int), Cond.methodLink RX12 177 yX12_isKerb, Cond.instanceMethod yX12_isKerb, Cond.selects RX12 yX12_isKerb yX12_isKerb, Cond.code yX12_isKerb cX12_isKerb 2 (some .boolean), Cond.fieldLink RX12 26 "SlopeCoinsModel" "kerbs" "[I", Cond.methodLink RX12 168 yX12_has, Cond.static yX12_has, Cond.code yX12_has cX12_has 2 (some .boolean), Cond.methodLink RX12 181 yX12_isPlank, Cond.instanceMethod yX12_isPlank, Cond.selects RX12 yX12_isPlank yX12_isPlank, Cond.code yX12_isPlank cX12_isPlank 2 (some .boolean), Cond.fieldLink RX12 7 "SlopeCoinsModel" "row" "[I", Cond.methodLink RX12 240 yX12_planksNow, Cond.instanceMethod yX12_planksNow, Cond.selects RX12 yX12_planksNow yX12_planksNow, Cond.code yX12_planksNow cX12_planksNow 3 (some .int), Cond.methodLink RX12 232 yX12_keepPast, Cond.instanceMethod yX12_keepPast]
def wsX12_sets_r3 : List Cond := [Cond.selects RX12 yX12_keepPast yX12_keepPast, Cond.code yX12_keepPast cX12_keepPast 3 none, Cond.methodLink RX12 243 yX12_setPlank, Cond.instanceMethod yX12_setPlank, Cond.selects RX12 yX12_setPlank yX12_setPlank, Cond.code yX12_setPlank cX12_setPlank 2 none]
def wsX12_sets : List Cond := .code yX12_sets cX12_sets 5 (some .int) :: ((wsX12_sets_r1 ++ (wsX12_sets_r2 ++ wsX12_sets_r3)) ++ wsX120)
def wsX12_takes_r1 : List Cond := [Cond.constantLong RX12 238 (3), Cond.methodLink RX12 160 yX12_isCell, Cond.instanceMethod yX12_isCell, Cond.selects RX12 yX12_isCell yX12_isCell, Cond.initialized RX12, Cond.code yX12_isCell cX12_isCell 3 (some .boolean), Cond.fieldLink RX12 143 "SlopeCoinsModel" "wide" "I", Cond.fieldLink RX12 146 "SlopeCoinsModel" "high" "I", Cond.methodLink RX12 68 yX12_in, Cond.static yX12_in, Cond.code yX12_in cX12_in 6 (some .boolean), Cond.methodLink RX12 164 yX12_bit, Cond.instanceMethod yX12_bit, Cond.selects RX12 yX12_bit yX12_bit, Cond.code yX12_bit cX12_bit 3 (some .int), Cond.methodLink RX12 171 yX12_isEdge, Cond.instanceMethod yX12_isEdge, Cond.selects RX12 yX12_isEdge yX12_isEdge, Cond.code yX12_isEdge cX12_isEdge 5 (some .boolean), Cond.methodLink RX12 174 yX12_sideOf, Cond.instanceMethod yX12_sideOf, Cond.selects RX12 yX12_sideOf yX12_sideOf, Cond.code yX12_sideOf cX12_sideOf 3 (some .int), Cond.methodLink RX12 181 yX12_isPlank]
def wsX12_takes_r2 : List Cond := [Cond.instanceMethod yX12_isPlank, Cond.selects RX12 yX12_isPlank yX12_isPlank, Cond.code yX12_isPlank cX12_isPlank 2 (some .boolean), Cond.fieldLink RX12 7 "SlopeCoinsModel" "row" "[I", Cond.methodLink RX12 232 yX12_keepPast, Cond.instanceMethod yX12_keepPast, Cond.selects RX12 yX12_keepPast yX12_keepPast, Cond.code yX12_keepPast cX12_keepPast 3 none, Cond.methodLink RX12 243 yX12_setPlank, Cond.instanceMethod yX12_setPlank, Cond.selects RX12 yX12_setPlank yX12_setPlank, Cond.code yX12_setPlank cX12_setPlank 2 none, Cond.methodLink RX12 240 yX12_planksNow, Cond.instanceMethod yX12_planksNow, Cond.selects RX12 yX12_planksNow yX12_planksNow, Cond.code yX12_planksNow cX12_planksNow 3 (some .int)]
def wsX12_takes : List Cond := .code yX12_takes cX12_takes 5 (some .int) :: ((wsX12_takes_r1 ++ wsX12_takes_r2) ++ wsX120)
def wsX12_cobble : List Cond := .code yX12_cobble cX12_cobble 6 (some .int) :: ([.fieldLink RX12 7 "SlopeCoinsModel" "row" "[I", .constantLong RX12 247 (9), .methodLink RX12 160 yX12_isCell, .instanceMethod yX12_isCell, .selects RX12 yX12_isCell yX12_isCell, .initialized RX12, .code yX12_isCell cX12_isCell 3 (some .boolean), .fieldLink RX12 143 "SlopeCoinsModel" "wide" "I", .fieldLink RX12 146 "SlopeCoinsModel" "high" "I", .methodLink RX12 68 yX12_in, .static yX12_in, .code yX12_in cX12_in 6 (some .boolean), .methodLink RX12 164 yX12_bit, .instanceMethod yX12_bit, .selects RX12 yX12_bit yX12_bit, .code yX12_bit cX12_bit 3 (some .int), .methodLink RX12 232 yX12_keepPast, .instanceMethod yX12_keepPast, .selects RX12 yX12_keepPast yX12_keepPast, .code yX12_keepPast cX12_keepPast 3 none] ++ wsX120)
def wsX12_sweep : List Cond := .code yX12_sweep cX12_sweep 5 (some .int) :: ([.fieldLink RX12 7 "SlopeCoinsModel" "row" "[I", .methodLink RX12 160 yX12_isCell, .instanceMethod yX12_isCell, .selects RX12 yX12_isCell yX12_isCell, .initialized RX12, .code yX12_isCell cX12_isCell 3 (some .boolean), .fieldLink RX12 143 "SlopeCoinsModel" "wide" "I", .fieldLink RX12 146 "SlopeCoinsModel" "high" "I", .methodLink RX12 68 yX12_in, .static yX12_in, .code yX12_in cX12_in 6 (some .boolean), .methodLink RX12 164 yX12_bit, .instanceMethod yX12_bit, .selects RX12 yX12_bit yX12_bit, .code yX12_bit cX12_bit 3 (some .int), .methodLink RX12 214 yX12_liesOn, .instanceMethod yX12_liesOn, .selects RX12 yX12_liesOn yX12_liesOn, .code yX12_liesOn cX12_liesOn 2 (some .int), .constant RX12 167 (1048575), .methodLink RX12 232 yX12_keepPast, .instanceMethod yX12_keepPast, .selects RX12 yX12_keepPast yX12_keepPast, .code yX12_keepPast cX12_keepPast 3 none] ++ wsX120)
def wsX12_undo : List Cond := .code yX12_undo cX12_undo 2 (some .int) :: ([.fieldLink RX12 7 "SlopeCoinsModel" "row" "[I"] ++ wsX120)
def wsX12_isSo_r1 : List Cond := [Cond.fieldLink RX12 157 "SlopeCoinsModel" "seenMany" "I", Cond.fieldLink RX12 38 "SlopeCoinsModel" "seen" "[I", Cond.methodLink RX12 249 yX12_endOf, Cond.instanceMethod yX12_endOf, Cond.selects RX12 yX12_endOf yX12_endOf, Cond.initialized RX12, Cond.code yX12_endOf cX12_endOf 3 (some .int), Cond.fieldLink RX12 200 "SlopeCoinsModel" "ended" "I", Cond.methodLink RX12 210 yX12_rollKind, Cond.instanceMethod yX12_rollKind, Cond.selects RX12 yX12_rollKind yX12_rollKind, Cond.code yX12_rollKind cX12_rollKind 3 none, Cond.fieldLink RX12 29 "SlopeCoinsModel" "sizes" "[I", Cond.fieldLink RX12 35 "SlopeCoinsModel" "forged" "[I", Cond.methodLink RX12 203 yX12_roll, Cond.instanceMethod yX12_roll, Cond.selects RX12 yX12_roll yX12_roll, Cond.code yX12_roll cX12_roll 7 none, Cond.fieldLink RX12 190 "SlopeCoinsModel" "steps" "I", Cond.fieldLink RX12 193 "SlopeCoinsModel" "past" "I", Cond.fieldLink RX12 23 "SlopeCoinsModel" "gratings" "[I", Cond.methodLink RX12 196 yX12_wayFrom, Cond.instanceMethod yX12_wayFrom, Cond.selects RX12 yX12_wayFrom yX12_wayFrom]
def wsX12_isSo_r2 : List Cond := [Cond.code yX12_wayFrom cX12_wayFrom 10 (some .int), Cond.fieldLink RX12 7 "SlopeCoinsModel" "row" "[I", Cond.methodLink RX12 184 yX12_isShut, Cond.instanceMethod yX12_isShut, Cond.selects RX12 yX12_isShut yX12_isShut, Cond.code yX12_isShut cX12_isShut 4 (some .boolean), Cond.fieldLink RX12 56 "SlopeCoinsModel" "triedOne" "I", Cond.fieldLink RX12 60 "SlopeCoinsModel" "triedTwo" "I", Cond.methodLink RX12 171 yX12_isEdge, Cond.instanceMethod yX12_isEdge, Cond.selects RX12 yX12_isEdge yX12_isEdge, Cond.code yX12_isEdge cX12_isEdge 5 (some .boolean), Cond.fieldLink RX12 143 "SlopeCoinsModel" "wide" "I", Cond.fieldLink RX12 146 "SlopeCoinsModel" "high" "I", Cond.methodLink RX12 174 yX12_sideOf, Cond.instanceMethod yX12_sideOf, Cond.selects RX12 yX12_sideOf yX12_sideOf, Cond.code yX12_sideOf cX12_sideOf 3 (some .int), Cond.methodLink RX12 177 yX12_isKerb, Cond.instanceMethod yX12_isKerb, Cond.selects RX12 yX12_isKerb yX12_isKerb, Cond.code yX12_isKerb cX12_isKerb 2 (some .boolean), Cond.fieldLink RX12 26 "SlopeCoinsModel" "kerbs" "[I", Cond.methodLink RX12 168 yX12_has]
def wsX12_isSo_r3 : List Cond := [Cond.static yX12_has, Cond.code yX12_has cX12_has 2 (some .boolean), Cond.methodLink RX12 181 yX12_isPlank, Cond.instanceMethod yX12_isPlank, Cond.selects RX12 yX12_isPlank yX12_isPlank, Cond.code yX12_isPlank cX12_isPlank 2 (some .boolean), Cond.methodLink RX12 187 yX12_beside, Cond.instanceMethod yX12_beside, Cond.selects RX12 yX12_beside yX12_beside, Cond.code yX12_beside cX12_beside 3 (some .int)]
def wsX12_isSo : List Cond := .code yX12_isSo cX12_isSo 3 (some .boolean) :: ((wsX12_isSo_r1 ++ (wsX12_isSo_r2 ++ wsX12_isSo_r3)) ++ wsX120)
def wsX12_now_r1 : List Cond := [Cond.methodLink RX12 226 yX12_lying, Cond.instanceMethod yX12_lying, Cond.selects RX12 yX12_lying yX12_lying, Cond.initialized RX12, Cond.code yX12_lying cX12_lying 3 (some .int), Cond.methodLink RX12 223 yX12_cells, Cond.instanceMethod yX12_cells, Cond.selects RX12 yX12_cells yX12_cells, Cond.code yX12_cells cX12_cells 1 (some .int), Cond.fieldLink RX12 143 "SlopeCoinsModel" "wide" "I", Cond.fieldLink RX12 146 "SlopeCoinsModel" "high" "I", Cond.methodLink RX12 214 yX12_liesOn, Cond.instanceMethod yX12_liesOn, Cond.selects RX12 yX12_liesOn yX12_liesOn, Cond.code yX12_liesOn cX12_liesOn 2 (some .int), Cond.fieldLink RX12 7 "SlopeCoinsModel" "row" "[I", Cond.constant RX12 167 (1048575), Cond.methodLink RX12 229 yX12_sumFrom, Cond.instanceMethod yX12_sumFrom, Cond.selects RX12 yX12_sumFrom yX12_sumFrom, Cond.code yX12_sumFrom cX12_sumFrom 4 (some .int), Cond.methodLink RX12 240 yX12_planksNow, Cond.instanceMethod yX12_planksNow, Cond.selects RX12 yX12_planksNow yX12_planksNow]
def wsX12_now_r2 : List Cond := [Cond.code yX12_planksNow cX12_planksNow 3 (some .int), Cond.methodLink RX12 181 yX12_isPlank, Cond.instanceMethod yX12_isPlank, Cond.selects RX12 yX12_isPlank yX12_isPlank, Cond.code yX12_isPlank cX12_isPlank 2 (some .boolean), Cond.methodLink RX12 252 yX12_isSo, Cond.instanceMethod yX12_isSo, Cond.selects RX12 yX12_isSo yX12_isSo, Cond.code yX12_isSo cX12_isSo 3 (some .boolean), Cond.fieldLink RX12 157 "SlopeCoinsModel" "seenMany" "I", Cond.fieldLink RX12 38 "SlopeCoinsModel" "seen" "[I", Cond.methodLink RX12 249 yX12_endOf, Cond.instanceMethod yX12_endOf, Cond.selects RX12 yX12_endOf yX12_endOf, Cond.code yX12_endOf cX12_endOf 3 (some .int), Cond.fieldLink RX12 200 "SlopeCoinsModel" "ended" "I", Cond.methodLink RX12 210 yX12_rollKind, Cond.instanceMethod yX12_rollKind, Cond.selects RX12 yX12_rollKind yX12_rollKind, Cond.code yX12_rollKind cX12_rollKind 3 none, Cond.fieldLink RX12 29 "SlopeCoinsModel" "sizes" "[I", Cond.fieldLink RX12 35 "SlopeCoinsModel" "forged" "[I", Cond.methodLink RX12 203 yX12_roll, Cond.instanceMethod yX12_roll]
def wsX12_now_r3 : List Cond := [Cond.selects RX12 yX12_roll yX12_roll, Cond.code yX12_roll cX12_roll 7 none, Cond.fieldLink RX12 190 "SlopeCoinsModel" "steps" "I", Cond.fieldLink RX12 193 "SlopeCoinsModel" "past" "I", Cond.fieldLink RX12 23 "SlopeCoinsModel" "gratings" "[I", Cond.methodLink RX12 196 yX12_wayFrom, Cond.instanceMethod yX12_wayFrom, Cond.selects RX12 yX12_wayFrom yX12_wayFrom, Cond.code yX12_wayFrom cX12_wayFrom 10 (some .int), Cond.methodLink RX12 184 yX12_isShut, Cond.instanceMethod yX12_isShut, Cond.selects RX12 yX12_isShut yX12_isShut, Cond.code yX12_isShut cX12_isShut 4 (some .boolean), Cond.fieldLink RX12 56 "SlopeCoinsModel" "triedOne" "I", Cond.fieldLink RX12 60 "SlopeCoinsModel" "triedTwo" "I", Cond.methodLink RX12 171 yX12_isEdge, Cond.instanceMethod yX12_isEdge, Cond.selects RX12 yX12_isEdge yX12_isEdge, Cond.code yX12_isEdge cX12_isEdge 5 (some .boolean), Cond.methodLink RX12 174 yX12_sideOf, Cond.instanceMethod yX12_sideOf, Cond.selects RX12 yX12_sideOf yX12_sideOf, Cond.code yX12_sideOf cX12_sideOf 3 (some .int), Cond.methodLink RX12 177 yX12_isKerb]
def wsX12_now_r4 : List Cond := [Cond.instanceMethod yX12_isKerb, Cond.selects RX12 yX12_isKerb yX12_isKerb, Cond.code yX12_isKerb cX12_isKerb 2 (some .boolean), Cond.fieldLink RX12 26 "SlopeCoinsModel" "kerbs" "[I", Cond.methodLink RX12 168 yX12_has, Cond.static yX12_has, Cond.code yX12_has cX12_has 2 (some .boolean), Cond.methodLink RX12 187 yX12_beside, Cond.instanceMethod yX12_beside, Cond.selects RX12 yX12_beside yX12_beside, Cond.code yX12_beside cX12_beside 3 (some .int)]
def wsX12_now : List Cond := .code yX12_now cX12_now 2 (some .int) :: ((wsX12_now_r1 ++ (wsX12_now_r2 ++ (wsX12_now_r3 ++ wsX12_now_r4))) ++ wsX120)
def wsX12_end_r1 : List Cond := [Cond.constantLong RX12 255 (2), Cond.fieldLink RX12 190 "SlopeCoinsModel" "steps" "I", Cond.fieldLink RX12 193 "SlopeCoinsModel" "past" "I", Cond.methodLink RX12 220 yX12_isKind, Cond.instanceMethod yX12_isKind, Cond.selects RX12 yX12_isKind yX12_isKind, Cond.initialized RX12, Cond.code yX12_isKind cX12_isKind 2 (some .boolean), Cond.fieldLink RX12 149 "SlopeCoinsModel" "kinds" "I", Cond.methodLink RX12 68 yX12_in, Cond.static yX12_in, Cond.code yX12_in cX12_in 6 (some .boolean), Cond.methodLink RX12 160 yX12_isCell, Cond.instanceMethod yX12_isCell, Cond.selects RX12 yX12_isCell yX12_isCell, Cond.code yX12_isCell cX12_isCell 3 (some .boolean), Cond.fieldLink RX12 143 "SlopeCoinsModel" "wide" "I", Cond.fieldLink RX12 146 "SlopeCoinsModel" "high" "I", Cond.methodLink RX12 164 yX12_bit, Cond.instanceMethod yX12_bit, Cond.selects RX12 yX12_bit yX12_bit, Cond.code yX12_bit cX12_bit 3 (some .int), Cond.methodLink RX12 210 yX12_rollKind, Cond.instanceMethod yX12_rollKind]
def wsX12_end_r2 : List Cond := [Cond.selects RX12 yX12_rollKind yX12_rollKind, Cond.code yX12_rollKind cX12_rollKind 3 none, Cond.fieldLink RX12 29 "SlopeCoinsModel" "sizes" "[I", Cond.fieldLink RX12 35 "SlopeCoinsModel" "forged" "[I", Cond.methodLink RX12 203 yX12_roll, Cond.instanceMethod yX12_roll, Cond.selects RX12 yX12_roll yX12_roll, Cond.code yX12_roll cX12_roll 7 none, Cond.fieldLink RX12 23 "SlopeCoinsModel" "gratings" "[I", Cond.fieldLink RX12 200 "SlopeCoinsModel" "ended" "I", Cond.methodLink RX12 196 yX12_wayFrom, Cond.instanceMethod yX12_wayFrom, Cond.selects RX12 yX12_wayFrom yX12_wayFrom, Cond.code yX12_wayFrom cX12_wayFrom 10 (some .int), Cond.fieldLink RX12 7 "SlopeCoinsModel" "row" "[I", Cond.methodLink RX12 184 yX12_isShut, Cond.instanceMethod yX12_isShut, Cond.selects RX12 yX12_isShut yX12_isShut, Cond.code yX12_isShut cX12_isShut 4 (some .boolean), Cond.fieldLink RX12 56 "SlopeCoinsModel" "triedOne" "I", Cond.fieldLink RX12 60 "SlopeCoinsModel" "triedTwo" "I", Cond.methodLink RX12 171 yX12_isEdge, Cond.instanceMethod yX12_isEdge, Cond.selects RX12 yX12_isEdge yX12_isEdge]
def wsX12_end_r3 : List Cond := [Cond.code yX12_isEdge cX12_isEdge 5 (some .boolean), Cond.methodLink RX12 174 yX12_sideOf, Cond.instanceMethod yX12_sideOf, Cond.selects RX12 yX12_sideOf yX12_sideOf, Cond.code yX12_sideOf cX12_sideOf 3 (some .int), Cond.methodLink RX12 177 yX12_isKerb, Cond.instanceMethod yX12_isKerb, Cond.selects RX12 yX12_isKerb yX12_isKerb, Cond.code yX12_isKerb cX12_isKerb 2 (some .boolean), Cond.fieldLink RX12 26 "SlopeCoinsModel" "kerbs" "[I", Cond.methodLink RX12 168 yX12_has, Cond.static yX12_has, Cond.code yX12_has cX12_has 2 (some .boolean), Cond.methodLink RX12 181 yX12_isPlank, Cond.instanceMethod yX12_isPlank, Cond.selects RX12 yX12_isPlank yX12_isPlank, Cond.code yX12_isPlank cX12_isPlank 2 (some .boolean), Cond.methodLink RX12 187 yX12_beside, Cond.instanceMethod yX12_beside, Cond.selects RX12 yX12_beside yX12_beside, Cond.code yX12_beside cX12_beside 3 (some .int), Cond.methodLink RX12 235 yX12_toldEnd, Cond.instanceMethod yX12_toldEnd, Cond.selects RX12 yX12_toldEnd yX12_toldEnd]
def wsX12_end_r4 : List Cond := [Cond.code yX12_toldEnd cX12_toldEnd 1 (some .int), Cond.methodLink RX12 207 yX12_pairOf, Cond.instanceMethod yX12_pairOf, Cond.selects RX12 yX12_pairOf yX12_pairOf, Cond.code yX12_pairOf cX12_pairOf 2 (some .int)]
def wsX12_end : List Cond := .code yX12_end cX12_end 5 (some .int) :: ((wsX12_end_r1 ++ (wsX12_end_r2 ++ (wsX12_end_r3 ++ wsX12_end_r4))) ++ wsX120)
def wsX12_doorsOf_r1 : List Cond := [Cond.methodLink RX12 223 yX12_cells, Cond.instanceMethod yX12_cells, Cond.selects RX12 yX12_cells yX12_cells, Cond.initialized RX12, Cond.code yX12_cells cX12_cells 1 (some .int), Cond.fieldLink RX12 143 "SlopeCoinsModel" "wide" "I", Cond.fieldLink RX12 146 "SlopeCoinsModel" "high" "I", Cond.methodLink RX12 249 yX12_endOf, Cond.instanceMethod yX12_endOf, Cond.selects RX12 yX12_endOf yX12_endOf, Cond.code yX12_endOf cX12_endOf 3 (some .int), Cond.fieldLink RX12 200 "SlopeCoinsModel" "ended" "I", Cond.methodLink RX12 210 yX12_rollKind, Cond.instanceMethod yX12_rollKind, Cond.selects RX12 yX12_rollKind yX12_rollKind, Cond.code yX12_rollKind cX12_rollKind 3 none, Cond.fieldLink RX12 29 "SlopeCoinsModel" "sizes" "[I", Cond.fieldLink RX12 35 "SlopeCoinsModel" "forged" "[I", Cond.methodLink RX12 203 yX12_roll, Cond.instanceMethod yX12_roll, Cond.selects RX12 yX12_roll yX12_roll, Cond.code yX12_roll cX12_roll 7 none, Cond.fieldLink RX12 190 "SlopeCoinsModel" "steps" "I", Cond.fieldLink RX12 193 "SlopeCoinsModel" "past" "I"]
def wsX12_doorsOf_r2 : List Cond := [Cond.fieldLink RX12 23 "SlopeCoinsModel" "gratings" "[I", Cond.methodLink RX12 196 yX12_wayFrom, Cond.instanceMethod yX12_wayFrom, Cond.selects RX12 yX12_wayFrom yX12_wayFrom, Cond.code yX12_wayFrom cX12_wayFrom 10 (some .int), Cond.fieldLink RX12 7 "SlopeCoinsModel" "row" "[I", Cond.methodLink RX12 184 yX12_isShut, Cond.instanceMethod yX12_isShut, Cond.selects RX12 yX12_isShut yX12_isShut, Cond.code yX12_isShut cX12_isShut 4 (some .boolean), Cond.fieldLink RX12 56 "SlopeCoinsModel" "triedOne" "I", Cond.fieldLink RX12 60 "SlopeCoinsModel" "triedTwo" "I", Cond.methodLink RX12 171 yX12_isEdge, Cond.instanceMethod yX12_isEdge, Cond.selects RX12 yX12_isEdge yX12_isEdge, Cond.code yX12_isEdge cX12_isEdge 5 (some .boolean), Cond.methodLink RX12 174 yX12_sideOf, Cond.instanceMethod yX12_sideOf, Cond.selects RX12 yX12_sideOf yX12_sideOf, Cond.code yX12_sideOf cX12_sideOf 3 (some .int), Cond.methodLink RX12 177 yX12_isKerb, Cond.instanceMethod yX12_isKerb, Cond.selects RX12 yX12_isKerb yX12_isKerb, Cond.code yX12_isKerb cX12_isKerb 2 (some .boolean)]
def wsX12_doorsOf_r3 : List Cond := [Cond.fieldLink RX12 26 "SlopeCoinsModel" "kerbs" "[I", Cond.methodLink RX12 168 yX12_has, Cond.static yX12_has, Cond.code yX12_has cX12_has 2 (some .boolean), Cond.methodLink RX12 181 yX12_isPlank, Cond.instanceMethod yX12_isPlank, Cond.selects RX12 yX12_isPlank yX12_isPlank, Cond.code yX12_isPlank cX12_isPlank 2 (some .boolean), Cond.methodLink RX12 187 yX12_beside, Cond.instanceMethod yX12_beside, Cond.selects RX12 yX12_beside yX12_beside, Cond.code yX12_beside cX12_beside 3 (some .int)]
def wsX12_doorsOf : List Cond := .code yX12_doorsOf cX12_doorsOf 5 (some .int) :: ((wsX12_doorsOf_r1 ++ (wsX12_doorsOf_r2 ++ wsX12_doorsOf_r3)) ++ wsX120)
def wsX12_doors_r1 : List Cond := [Cond.methodLink RX12 220 yX12_isKind, Cond.instanceMethod yX12_isKind, Cond.selects RX12 yX12_isKind yX12_isKind, Cond.initialized RX12, Cond.code yX12_isKind cX12_isKind 2 (some .boolean), Cond.fieldLink RX12 149 "SlopeCoinsModel" "kinds" "I", Cond.methodLink RX12 68 yX12_in, Cond.static yX12_in, Cond.code yX12_in cX12_in 6 (some .boolean), Cond.methodLink RX12 160 yX12_isCell, Cond.instanceMethod yX12_isCell, Cond.selects RX12 yX12_isCell yX12_isCell, Cond.code yX12_isCell cX12_isCell 3 (some .boolean), Cond.fieldLink RX12 143 "SlopeCoinsModel" "wide" "I", Cond.fieldLink RX12 146 "SlopeCoinsModel" "high" "I", Cond.methodLink RX12 164 yX12_bit, Cond.instanceMethod yX12_bit, Cond.selects RX12 yX12_bit yX12_bit, Cond.code yX12_bit cX12_bit 3 (some .int), Cond.methodLink RX12 257 yX12_doorsOf, Cond.instanceMethod yX12_doorsOf, Cond.selects RX12 yX12_doorsOf yX12_doorsOf, Cond.code yX12_doorsOf cX12_doorsOf 5 (some .int), Cond.methodLink RX12 223 yX12_cells]
def wsX12_doors_r2 : List Cond := [Cond.instanceMethod yX12_cells, Cond.selects RX12 yX12_cells yX12_cells, Cond.code yX12_cells cX12_cells 1 (some .int), Cond.methodLink RX12 249 yX12_endOf, Cond.instanceMethod yX12_endOf, Cond.selects RX12 yX12_endOf yX12_endOf, Cond.code yX12_endOf cX12_endOf 3 (some .int), Cond.fieldLink RX12 200 "SlopeCoinsModel" "ended" "I", Cond.methodLink RX12 210 yX12_rollKind, Cond.instanceMethod yX12_rollKind, Cond.selects RX12 yX12_rollKind yX12_rollKind, Cond.code yX12_rollKind cX12_rollKind 3 none, Cond.fieldLink RX12 29 "SlopeCoinsModel" "sizes" "[I", Cond.fieldLink RX12 35 "SlopeCoinsModel" "forged" "[I", Cond.methodLink RX12 203 yX12_roll, Cond.instanceMethod yX12_roll, Cond.selects RX12 yX12_roll yX12_roll, Cond.code yX12_roll cX12_roll 7 none, Cond.fieldLink RX12 190 "SlopeCoinsModel" "steps" "I", Cond.fieldLink RX12 193 "SlopeCoinsModel" "past" "I", Cond.fieldLink RX12 23 "SlopeCoinsModel" "gratings" "[I", Cond.methodLink RX12 196 yX12_wayFrom, Cond.instanceMethod yX12_wayFrom, Cond.selects RX12 yX12_wayFrom yX12_wayFrom]
def wsX12_doors_r3 : List Cond := [Cond.code yX12_wayFrom cX12_wayFrom 10 (some .int), Cond.fieldLink RX12 7 "SlopeCoinsModel" "row" "[I", Cond.methodLink RX12 184 yX12_isShut, Cond.instanceMethod yX12_isShut, Cond.selects RX12 yX12_isShut yX12_isShut, Cond.code yX12_isShut cX12_isShut 4 (some .boolean), Cond.fieldLink RX12 56 "SlopeCoinsModel" "triedOne" "I", Cond.fieldLink RX12 60 "SlopeCoinsModel" "triedTwo" "I", Cond.methodLink RX12 171 yX12_isEdge, Cond.instanceMethod yX12_isEdge, Cond.selects RX12 yX12_isEdge yX12_isEdge, Cond.code yX12_isEdge cX12_isEdge 5 (some .boolean), Cond.methodLink RX12 174 yX12_sideOf, Cond.instanceMethod yX12_sideOf, Cond.selects RX12 yX12_sideOf yX12_sideOf, Cond.code yX12_sideOf cX12_sideOf 3 (some .int), Cond.methodLink RX12 177 yX12_isKerb, Cond.instanceMethod yX12_isKerb, Cond.selects RX12 yX12_isKerb yX12_isKerb, Cond.code yX12_isKerb cX12_isKerb 2 (some .boolean), Cond.fieldLink RX12 26 "SlopeCoinsModel" "kerbs" "[I", Cond.methodLink RX12 168 yX12_has, Cond.static yX12_has, Cond.code yX12_has cX12_has 2 (some .boolean)]
def wsX12_doors_r4 : List Cond := [Cond.methodLink RX12 181 yX12_isPlank, Cond.instanceMethod yX12_isPlank, Cond.selects RX12 yX12_isPlank yX12_isPlank, Cond.code yX12_isPlank cX12_isPlank 2 (some .boolean), Cond.methodLink RX12 187 yX12_beside, Cond.instanceMethod yX12_beside, Cond.selects RX12 yX12_beside yX12_beside, Cond.code yX12_beside cX12_beside 3 (some .int)]
def wsX12_doors : List Cond := .code yX12_doors cX12_doors 4 (some .int) :: ((wsX12_doors_r1 ++ (wsX12_doors_r2 ++ (wsX12_doors_r3 ++ wsX12_doors_r4))) ++ wsX120)
def wsX12_isFree : List Cond := .code yX12_isFree cX12_isFree 3 (some .boolean) :: ([.methodLink RX12 171 yX12_isEdge, .instanceMethod yX12_isEdge, .selects RX12 yX12_isEdge yX12_isEdge, .initialized RX12, .code yX12_isEdge cX12_isEdge 5 (some .boolean), .fieldLink RX12 143 "SlopeCoinsModel" "wide" "I", .fieldLink RX12 146 "SlopeCoinsModel" "high" "I", .methodLink RX12 177 yX12_isKerb, .instanceMethod yX12_isKerb, .selects RX12 yX12_isKerb yX12_isKerb, .code yX12_isKerb cX12_isKerb 2 (some .boolean), .fieldLink RX12 26 "SlopeCoinsModel" "kerbs" "[I", .methodLink RX12 168 yX12_has, .static yX12_has, .code yX12_has cX12_has 2 (some .boolean), .methodLink RX12 181 yX12_isPlank, .instanceMethod yX12_isPlank, .selects RX12 yX12_isPlank yX12_isPlank, .code yX12_isPlank cX12_isPlank 2 (some .boolean), .fieldLink RX12 7 "SlopeCoinsModel" "row" "[I"] ++ wsX120)
def wsX12_triesPlanks_r1 : List Cond := [Cond.fieldLink RX12 56 "SlopeCoinsModel" "triedOne" "I", Cond.fieldLink RX12 60 "SlopeCoinsModel" "triedTwo" "I", Cond.methodLink RX12 223 yX12_cells, Cond.instanceMethod yX12_cells, Cond.selects RX12 yX12_cells yX12_cells, Cond.initialized RX12, Cond.code yX12_cells cX12_cells 1 (some .int), Cond.fieldLink RX12 143 "SlopeCoinsModel" "wide" "I", Cond.fieldLink RX12 146 "SlopeCoinsModel" "high" "I", Cond.methodLink RX12 260 yX12_isFree, Cond.instanceMethod yX12_isFree, Cond.selects RX12 yX12_isFree yX12_isFree, Cond.code yX12_isFree cX12_isFree 3 (some .boolean), Cond.methodLink RX12 171 yX12_isEdge, Cond.instanceMethod yX12_isEdge, Cond.selects RX12 yX12_isEdge yX12_isEdge, Cond.code yX12_isEdge cX12_isEdge 5 (some .boolean), Cond.methodLink RX12 177 yX12_isKerb, Cond.instanceMethod yX12_isKerb, Cond.selects RX12 yX12_isKerb yX12_isKerb, Cond.code yX12_isKerb cX12_isKerb 2 (some .boolean), Cond.fieldLink RX12 26 "SlopeCoinsModel" "kerbs" "[I", Cond.methodLink RX12 168 yX12_has, Cond.static yX12_has]
def wsX12_triesPlanks_r2 : List Cond := [Cond.code yX12_has cX12_has 2 (some .boolean), Cond.methodLink RX12 181 yX12_isPlank, Cond.instanceMethod yX12_isPlank, Cond.selects RX12 yX12_isPlank yX12_isPlank, Cond.code yX12_isPlank cX12_isPlank 2 (some .boolean), Cond.fieldLink RX12 7 "SlopeCoinsModel" "row" "[I", Cond.methodLink RX12 249 yX12_endOf, Cond.instanceMethod yX12_endOf, Cond.selects RX12 yX12_endOf yX12_endOf, Cond.code yX12_endOf cX12_endOf 3 (some .int), Cond.fieldLink RX12 200 "SlopeCoinsModel" "ended" "I", Cond.methodLink RX12 210 yX12_rollKind, Cond.instanceMethod yX12_rollKind, Cond.selects RX12 yX12_rollKind yX12_rollKind, Cond.code yX12_rollKind cX12_rollKind 3 none, Cond.fieldLink RX12 29 "SlopeCoinsModel" "sizes" "[I", Cond.fieldLink RX12 35 "SlopeCoinsModel" "forged" "[I", Cond.methodLink RX12 203 yX12_roll, Cond.instanceMethod yX12_roll, Cond.selects RX12 yX12_roll yX12_roll, Cond.code yX12_roll cX12_roll 7 none, Cond.fieldLink RX12 190 "SlopeCoinsModel" "steps" "I", Cond.fieldLink RX12 193 "SlopeCoinsModel" "past" "I", Cond.fieldLink RX12 23 "SlopeCoinsModel" "gratings" "[I"]
def wsX12_triesPlanks_r3 : List Cond := [Cond.methodLink RX12 196 yX12_wayFrom, Cond.instanceMethod yX12_wayFrom, Cond.selects RX12 yX12_wayFrom yX12_wayFrom, Cond.code yX12_wayFrom cX12_wayFrom 10 (some .int), Cond.methodLink RX12 184 yX12_isShut, Cond.instanceMethod yX12_isShut, Cond.selects RX12 yX12_isShut yX12_isShut, Cond.code yX12_isShut cX12_isShut 4 (some .boolean), Cond.methodLink RX12 174 yX12_sideOf, Cond.instanceMethod yX12_sideOf, Cond.selects RX12 yX12_sideOf yX12_sideOf, Cond.code yX12_sideOf cX12_sideOf 3 (some .int), Cond.methodLink RX12 187 yX12_beside, Cond.instanceMethod yX12_beside, Cond.selects RX12 yX12_beside yX12_beside, Cond.code yX12_beside cX12_beside 3 (some .int)]
def wsX12_triesPlanks : List Cond := .code yX12_triesPlanks cX12_triesPlanks 7 (some .boolean) :: ((wsX12_triesPlanks_r1 ++ (wsX12_triesPlanks_r2 ++ wsX12_triesPlanks_r3)) ++ wsX120)
def wsX12_toldSide : List Cond := .code yX12_toldSide cX12_toldSide 2 (some .int) :: ([.methodLink RX12 207 yX12_pairOf, .instanceMethod yX12_pairOf, .selects RX12 yX12_pairOf yX12_pairOf, .initialized RX12, .code yX12_pairOf cX12_pairOf 2 (some .int), .fieldLink RX12 143 "SlopeCoinsModel" "wide" "I"] ++ wsX120)
def wsX12_planks_r1 : List Cond := [Cond.constantLong RX12 255 (2), Cond.fieldLink RX12 56 "SlopeCoinsModel" "triedOne" "I", Cond.fieldLink RX12 60 "SlopeCoinsModel" "triedTwo" "I", Cond.methodLink RX12 220 yX12_isKind, Cond.instanceMethod yX12_isKind, Cond.selects RX12 yX12_isKind yX12_isKind, Cond.initialized RX12, Cond.code yX12_isKind cX12_isKind 2 (some .boolean), Cond.fieldLink RX12 149 "SlopeCoinsModel" "kinds" "I", Cond.methodLink RX12 68 yX12_in, Cond.static yX12_in, Cond.code yX12_in cX12_in 6 (some .boolean), Cond.methodLink RX12 263 yX12_isPair, Cond.instanceMethod yX12_isPair, Cond.selects RX12 yX12_isPair yX12_isPair, Cond.code yX12_isPair cX12_isPair 2 (some .boolean), Cond.methodLink RX12 160 yX12_isCell, Cond.instanceMethod yX12_isCell, Cond.selects RX12 yX12_isCell yX12_isCell, Cond.code yX12_isCell cX12_isCell 3 (some .boolean), Cond.fieldLink RX12 143 "SlopeCoinsModel" "wide" "I", Cond.fieldLink RX12 146 "SlopeCoinsModel" "high" "I", Cond.methodLink RX12 266 yX12_bitOf, Cond.instanceMethod yX12_bitOf]
def wsX12_planks_r2 : List Cond := [Cond.selects RX12 yX12_bitOf yX12_bitOf, Cond.code yX12_bitOf cX12_bitOf 2 (some .int), Cond.methodLink RX12 164 yX12_bit, Cond.instanceMethod yX12_bit, Cond.selects RX12 yX12_bit yX12_bit, Cond.code yX12_bit cX12_bit 3 (some .int), Cond.methodLink RX12 249 yX12_endOf, Cond.instanceMethod yX12_endOf, Cond.selects RX12 yX12_endOf yX12_endOf, Cond.code yX12_endOf cX12_endOf 3 (some .int), Cond.fieldLink RX12 200 "SlopeCoinsModel" "ended" "I", Cond.methodLink RX12 210 yX12_rollKind, Cond.instanceMethod yX12_rollKind, Cond.selects RX12 yX12_rollKind yX12_rollKind, Cond.code yX12_rollKind cX12_rollKind 3 none, Cond.fieldLink RX12 29 "SlopeCoinsModel" "sizes" "[I", Cond.fieldLink RX12 35 "SlopeCoinsModel" "forged" "[I", Cond.methodLink RX12 203 yX12_roll, Cond.instanceMethod yX12_roll, Cond.selects RX12 yX12_roll yX12_roll, Cond.code yX12_roll cX12_roll 7 none, Cond.fieldLink RX12 190 "SlopeCoinsModel" "steps" "I", Cond.fieldLink RX12 193 "SlopeCoinsModel" "past" "I", Cond.fieldLink RX12 23 "SlopeCoinsModel" "gratings" "[I"]
def wsX12_planks_r3 : List Cond := [Cond.methodLink RX12 196 yX12_wayFrom, Cond.instanceMethod yX12_wayFrom, Cond.selects RX12 yX12_wayFrom yX12_wayFrom, Cond.code yX12_wayFrom cX12_wayFrom 10 (some .int), Cond.fieldLink RX12 7 "SlopeCoinsModel" "row" "[I", Cond.methodLink RX12 184 yX12_isShut, Cond.instanceMethod yX12_isShut, Cond.selects RX12 yX12_isShut yX12_isShut, Cond.code yX12_isShut cX12_isShut 4 (some .boolean), Cond.methodLink RX12 171 yX12_isEdge, Cond.instanceMethod yX12_isEdge, Cond.selects RX12 yX12_isEdge yX12_isEdge, Cond.code yX12_isEdge cX12_isEdge 5 (some .boolean), Cond.methodLink RX12 174 yX12_sideOf, Cond.instanceMethod yX12_sideOf, Cond.selects RX12 yX12_sideOf yX12_sideOf, Cond.code yX12_sideOf cX12_sideOf 3 (some .int), Cond.methodLink RX12 177 yX12_isKerb, Cond.instanceMethod yX12_isKerb, Cond.selects RX12 yX12_isKerb yX12_isKerb, Cond.code yX12_isKerb cX12_isKerb 2 (some .boolean), Cond.fieldLink RX12 26 "SlopeCoinsModel" "kerbs" "[I", Cond.methodLink RX12 168 yX12_has, Cond.static yX12_has]
def wsX12_planks_r4 : List Cond := [Cond.code yX12_has cX12_has 2 (some .boolean), Cond.methodLink RX12 181 yX12_isPlank, Cond.instanceMethod yX12_isPlank, Cond.selects RX12 yX12_isPlank yX12_isPlank, Cond.code yX12_isPlank cX12_isPlank 2 (some .boolean), Cond.methodLink RX12 187 yX12_beside, Cond.instanceMethod yX12_beside, Cond.selects RX12 yX12_beside yX12_beside, Cond.code yX12_beside cX12_beside 3 (some .int), Cond.methodLink RX12 269 yX12_triesPlanks, Cond.instanceMethod yX12_triesPlanks, Cond.selects RX12 yX12_triesPlanks yX12_triesPlanks, Cond.code yX12_triesPlanks cX12_triesPlanks 7 (some .boolean), Cond.methodLink RX12 223 yX12_cells, Cond.instanceMethod yX12_cells, Cond.selects RX12 yX12_cells yX12_cells, Cond.code yX12_cells cX12_cells 1 (some .int), Cond.methodLink RX12 260 yX12_isFree, Cond.instanceMethod yX12_isFree, Cond.selects RX12 yX12_isFree yX12_isFree, Cond.code yX12_isFree cX12_isFree 3 (some .boolean), Cond.methodLink RX12 273 yX12_toldSide, Cond.instanceMethod yX12_toldSide, Cond.selects RX12 yX12_toldSide yX12_toldSide]
def wsX12_planks_r5 : List Cond := [Cond.code yX12_toldSide cX12_toldSide 2 (some .int), Cond.methodLink RX12 207 yX12_pairOf, Cond.instanceMethod yX12_pairOf, Cond.selects RX12 yX12_pairOf yX12_pairOf, Cond.code yX12_pairOf cX12_pairOf 2 (some .int)]
def wsX12_planks : List Cond := .code yX12_planks cX12_planks 10 (some .int) :: ((wsX12_planks_r1 ++ (wsX12_planks_r2 ++ (wsX12_planks_r3 ++ (wsX12_planks_r4 ++ wsX12_planks_r5)))) ++ wsX120)
def wsX12_paved_r1 : List Cond := [Cond.fieldLink RX12 7 "SlopeCoinsModel" "row" "[I", Cond.methodLink RX12 220 yX12_isKind, Cond.instanceMethod yX12_isKind, Cond.selects RX12 yX12_isKind yX12_isKind, Cond.initialized RX12, Cond.code yX12_isKind cX12_isKind 2 (some .boolean), Cond.fieldLink RX12 149 "SlopeCoinsModel" "kinds" "I", Cond.methodLink RX12 68 yX12_in, Cond.static yX12_in, Cond.code yX12_in cX12_in 6 (some .boolean), Cond.methodLink RX12 160 yX12_isCell, Cond.instanceMethod yX12_isCell, Cond.selects RX12 yX12_isCell yX12_isCell, Cond.code yX12_isCell cX12_isCell 3 (some .boolean), Cond.fieldLink RX12 143 "SlopeCoinsModel" "wide" "I", Cond.fieldLink RX12 146 "SlopeCoinsModel" "high" "I", Cond.methodLink RX12 223 yX12_cells, Cond.instanceMethod yX12_cells, Cond.selects RX12 yX12_cells yX12_cells, Cond.code yX12_cells cX12_cells 1 (some .int), Cond.methodLink RX12 164 yX12_bit, Cond.instanceMethod yX12_bit, Cond.selects RX12 yX12_bit yX12_bit, Cond.code yX12_bit cX12_bit 3 (some .int)]
def wsX12_paved_r2 : List Cond := [Cond.methodLink RX12 257 yX12_doorsOf, Cond.instanceMethod yX12_doorsOf, Cond.selects RX12 yX12_doorsOf yX12_doorsOf, Cond.code yX12_doorsOf cX12_doorsOf 5 (some .int), Cond.methodLink RX12 249 yX12_endOf, Cond.instanceMethod yX12_endOf, Cond.selects RX12 yX12_endOf yX12_endOf, Cond.code yX12_endOf cX12_endOf 3 (some .int), Cond.fieldLink RX12 200 "SlopeCoinsModel" "ended" "I", Cond.methodLink RX12 210 yX12_rollKind, Cond.instanceMethod yX12_rollKind, Cond.selects RX12 yX12_rollKind yX12_rollKind, Cond.code yX12_rollKind cX12_rollKind 3 none, Cond.fieldLink RX12 29 "SlopeCoinsModel" "sizes" "[I", Cond.fieldLink RX12 35 "SlopeCoinsModel" "forged" "[I", Cond.methodLink RX12 203 yX12_roll, Cond.instanceMethod yX12_roll, Cond.selects RX12 yX12_roll yX12_roll, Cond.code yX12_roll cX12_roll 7 none, Cond.fieldLink RX12 190 "SlopeCoinsModel" "steps" "I", Cond.fieldLink RX12 193 "SlopeCoinsModel" "past" "I", Cond.fieldLink RX12 23 "SlopeCoinsModel" "gratings" "[I", Cond.methodLink RX12 196 yX12_wayFrom, Cond.instanceMethod yX12_wayFrom]
def wsX12_paved_r3 : List Cond := [Cond.selects RX12 yX12_wayFrom yX12_wayFrom, Cond.code yX12_wayFrom cX12_wayFrom 10 (some .int), Cond.methodLink RX12 184 yX12_isShut, Cond.instanceMethod yX12_isShut, Cond.selects RX12 yX12_isShut yX12_isShut, Cond.code yX12_isShut cX12_isShut 4 (some .boolean), Cond.fieldLink RX12 56 "SlopeCoinsModel" "triedOne" "I", Cond.fieldLink RX12 60 "SlopeCoinsModel" "triedTwo" "I", Cond.methodLink RX12 171 yX12_isEdge, Cond.instanceMethod yX12_isEdge, Cond.selects RX12 yX12_isEdge yX12_isEdge, Cond.code yX12_isEdge cX12_isEdge 5 (some .boolean), Cond.methodLink RX12 174 yX12_sideOf, Cond.instanceMethod yX12_sideOf, Cond.selects RX12 yX12_sideOf yX12_sideOf, Cond.code yX12_sideOf cX12_sideOf 3 (some .int), Cond.methodLink RX12 177 yX12_isKerb, Cond.instanceMethod yX12_isKerb, Cond.selects RX12 yX12_isKerb yX12_isKerb, Cond.code yX12_isKerb cX12_isKerb 2 (some .boolean), Cond.fieldLink RX12 26 "SlopeCoinsModel" "kerbs" "[I", Cond.methodLink RX12 168 yX12_has, Cond.static yX12_has, Cond.code yX12_has cX12_has 2 (some .boolean)]
def wsX12_paved_r4 : List Cond := [Cond.methodLink RX12 181 yX12_isPlank, Cond.instanceMethod yX12_isPlank, Cond.selects RX12 yX12_isPlank yX12_isPlank, Cond.code yX12_isPlank cX12_isPlank 2 (some .boolean), Cond.methodLink RX12 187 yX12_beside, Cond.instanceMethod yX12_beside, Cond.selects RX12 yX12_beside yX12_beside, Cond.code yX12_beside cX12_beside 3 (some .int), Cond.methodLink RX12 276 yX12_bits, Cond.static yX12_bits, Cond.code yX12_bits cX12_bits 3 (some .int), Cond.methodLink RX12 207 yX12_pairOf, Cond.instanceMethod yX12_pairOf, Cond.selects RX12 yX12_pairOf yX12_pairOf, Cond.code yX12_pairOf cX12_pairOf 2 (some .int)]
def wsX12_paved : List Cond := .code yX12_paved cX12_paved 9 (some .int) :: ((wsX12_paved_r1 ++ (wsX12_paved_r2 ++ (wsX12_paved_r3 ++ wsX12_paved_r4))) ++ wsX120)
def wsX12_rain_r1 : List Cond := [Cond.fieldLink RX12 200 "SlopeCoinsModel" "ended" "I", Cond.methodLink RX12 68 yX12_in, Cond.static yX12_in, Cond.initialized RX12, Cond.code yX12_in cX12_in 6 (some .boolean), Cond.methodLink RX12 223 yX12_cells, Cond.instanceMethod yX12_cells, Cond.selects RX12 yX12_cells yX12_cells, Cond.code yX12_cells cX12_cells 1 (some .int), Cond.fieldLink RX12 143 "SlopeCoinsModel" "wide" "I", Cond.fieldLink RX12 146 "SlopeCoinsModel" "high" "I", Cond.methodLink RX12 203 yX12_roll, Cond.instanceMethod yX12_roll, Cond.selects RX12 yX12_roll yX12_roll, Cond.code yX12_roll cX12_roll 7 none, Cond.fieldLink RX12 190 "SlopeCoinsModel" "steps" "I", Cond.fieldLink RX12 193 "SlopeCoinsModel" "past" "I", Cond.fieldLink RX12 23 "SlopeCoinsModel" "gratings" "[I", Cond.methodLink RX12 196 yX12_wayFrom, Cond.instanceMethod yX12_wayFrom, Cond.selects RX12 yX12_wayFrom yX12_wayFrom, Cond.code yX12_wayFrom cX12_wayFrom 10 (some .int), Cond.fieldLink RX12 7 "SlopeCoinsModel" "row" "[I", Cond.methodLink RX12 184 yX12_isShut]
def wsX12_rain_r2 : List Cond := [Cond.instanceMethod yX12_isShut, Cond.selects RX12 yX12_isShut yX12_isShut, Cond.code yX12_isShut cX12_isShut 4 (some .boolean), Cond.fieldLink RX12 56 "SlopeCoinsModel" "triedOne" "I", Cond.fieldLink RX12 60 "SlopeCoinsModel" "triedTwo" "I", Cond.methodLink RX12 171 yX12_isEdge, Cond.instanceMethod yX12_isEdge, Cond.selects RX12 yX12_isEdge yX12_isEdge, Cond.code yX12_isEdge cX12_isEdge 5 (some .boolean), Cond.methodLink RX12 174 yX12_sideOf, Cond.instanceMethod yX12_sideOf, Cond.selects RX12 yX12_sideOf yX12_sideOf, Cond.code yX12_sideOf cX12_sideOf 3 (some .int), Cond.methodLink RX12 177 yX12_isKerb, Cond.instanceMethod yX12_isKerb, Cond.selects RX12 yX12_isKerb yX12_isKerb, Cond.code yX12_isKerb cX12_isKerb 2 (some .boolean), Cond.fieldLink RX12 26 "SlopeCoinsModel" "kerbs" "[I", Cond.methodLink RX12 168 yX12_has, Cond.static yX12_has, Cond.code yX12_has cX12_has 2 (some .boolean), Cond.methodLink RX12 181 yX12_isPlank, Cond.instanceMethod yX12_isPlank, Cond.selects RX12 yX12_isPlank yX12_isPlank]
def wsX12_rain_r3 : List Cond := [Cond.code yX12_isPlank cX12_isPlank 2 (some .boolean), Cond.methodLink RX12 187 yX12_beside, Cond.instanceMethod yX12_beside, Cond.selects RX12 yX12_beside yX12_beside, Cond.code yX12_beside cX12_beside 3 (some .int), Cond.methodLink RX12 207 yX12_pairOf, Cond.instanceMethod yX12_pairOf, Cond.selects RX12 yX12_pairOf yX12_pairOf, Cond.code yX12_pairOf cX12_pairOf 2 (some .int)]
def wsX12_rain : List Cond := .code yX12_rain cX12_rain 7 (some .int) :: ((wsX12_rain_r1 ++ (wsX12_rain_r2 ++ wsX12_rain_r3)) ++ wsX120)
def wsX12_divisor : List Cond := .code yX12_divisor cX12_divisor 5 (some .int) :: ([])
def wsX12_feet_r1 : List Cond := [Cond.methodLink RX12 220 yX12_isKind, Cond.instanceMethod yX12_isKind, Cond.selects RX12 yX12_isKind yX12_isKind, Cond.initialized RX12, Cond.code yX12_isKind cX12_isKind 2 (some .boolean), Cond.fieldLink RX12 149 "SlopeCoinsModel" "kinds" "I", Cond.methodLink RX12 68 yX12_in, Cond.static yX12_in, Cond.code yX12_in cX12_in 6 (some .boolean), Cond.methodLink RX12 263 yX12_isPair, Cond.instanceMethod yX12_isPair, Cond.selects RX12 yX12_isPair yX12_isPair, Cond.code yX12_isPair cX12_isPair 2 (some .boolean), Cond.methodLink RX12 160 yX12_isCell, Cond.instanceMethod yX12_isCell, Cond.selects RX12 yX12_isCell yX12_isCell, Cond.code yX12_isCell cX12_isCell 3 (some .boolean), Cond.fieldLink RX12 143 "SlopeCoinsModel" "wide" "I", Cond.fieldLink RX12 146 "SlopeCoinsModel" "high" "I", Cond.methodLink RX12 266 yX12_bitOf, Cond.instanceMethod yX12_bitOf, Cond.selects RX12 yX12_bitOf yX12_bitOf, Cond.code yX12_bitOf cX12_bitOf 2 (some .int), Cond.methodLink RX12 164 yX12_bit]
def wsX12_feet_r2 : List Cond := [Cond.instanceMethod yX12_bit, Cond.selects RX12 yX12_bit yX12_bit, Cond.code yX12_bit cX12_bit 3 (some .int), Cond.methodLink RX12 249 yX12_endOf, Cond.instanceMethod yX12_endOf, Cond.selects RX12 yX12_endOf yX12_endOf, Cond.code yX12_endOf cX12_endOf 3 (some .int), Cond.fieldLink RX12 200 "SlopeCoinsModel" "ended" "I", Cond.methodLink RX12 210 yX12_rollKind, Cond.instanceMethod yX12_rollKind, Cond.selects RX12 yX12_rollKind yX12_rollKind, Cond.code yX12_rollKind cX12_rollKind 3 none, Cond.fieldLink RX12 29 "SlopeCoinsModel" "sizes" "[I", Cond.fieldLink RX12 35 "SlopeCoinsModel" "forged" "[I", Cond.methodLink RX12 203 yX12_roll, Cond.instanceMethod yX12_roll, Cond.selects RX12 yX12_roll yX12_roll, Cond.code yX12_roll cX12_roll 7 none, Cond.fieldLink RX12 190 "SlopeCoinsModel" "steps" "I", Cond.fieldLink RX12 193 "SlopeCoinsModel" "past" "I", Cond.fieldLink RX12 23 "SlopeCoinsModel" "gratings" "[I", Cond.methodLink RX12 196 yX12_wayFrom, Cond.instanceMethod yX12_wayFrom, Cond.selects RX12 yX12_wayFrom yX12_wayFrom]
def wsX12_feet_r3 : List Cond := [Cond.code yX12_wayFrom cX12_wayFrom 10 (some .int), Cond.fieldLink RX12 7 "SlopeCoinsModel" "row" "[I", Cond.methodLink RX12 184 yX12_isShut, Cond.instanceMethod yX12_isShut, Cond.selects RX12 yX12_isShut yX12_isShut, Cond.code yX12_isShut cX12_isShut 4 (some .boolean), Cond.fieldLink RX12 56 "SlopeCoinsModel" "triedOne" "I", Cond.fieldLink RX12 60 "SlopeCoinsModel" "triedTwo" "I", Cond.methodLink RX12 171 yX12_isEdge, Cond.instanceMethod yX12_isEdge, Cond.selects RX12 yX12_isEdge yX12_isEdge, Cond.code yX12_isEdge cX12_isEdge 5 (some .boolean), Cond.methodLink RX12 174 yX12_sideOf, Cond.instanceMethod yX12_sideOf, Cond.selects RX12 yX12_sideOf yX12_sideOf, Cond.code yX12_sideOf cX12_sideOf 3 (some .int), Cond.methodLink RX12 177 yX12_isKerb, Cond.instanceMethod yX12_isKerb, Cond.selects RX12 yX12_isKerb yX12_isKerb, Cond.code yX12_isKerb cX12_isKerb 2 (some .boolean), Cond.fieldLink RX12 26 "SlopeCoinsModel" "kerbs" "[I", Cond.methodLink RX12 168 yX12_has, Cond.static yX12_has, Cond.code yX12_has cX12_has 2 (some .boolean)]
def wsX12_feet_r4 : List Cond := [Cond.methodLink RX12 181 yX12_isPlank, Cond.instanceMethod yX12_isPlank, Cond.selects RX12 yX12_isPlank yX12_isPlank, Cond.code yX12_isPlank cX12_isPlank 2 (some .boolean), Cond.methodLink RX12 187 yX12_beside, Cond.instanceMethod yX12_beside, Cond.selects RX12 yX12_beside yX12_beside, Cond.code yX12_beside cX12_beside 3 (some .int), Cond.methodLink RX12 279 yX12_divisor, Cond.static yX12_divisor, Cond.code yX12_divisor cX12_divisor 5 (some .int)]
def wsX12_feet : List Cond := .code yX12_feet cX12_feet 10 (some .int) :: ((wsX12_feet_r1 ++ (wsX12_feet_r2 ++ (wsX12_feet_r3 ++ wsX12_feet_r4))) ++ wsX120)
def wsX12_apartOf_r1 : List Cond := [Cond.fieldLink RX12 200 "SlopeCoinsModel" "ended" "I", Cond.methodLink RX12 223 yX12_cells, Cond.instanceMethod yX12_cells, Cond.selects RX12 yX12_cells yX12_cells, Cond.initialized RX12, Cond.code yX12_cells cX12_cells 1 (some .int), Cond.fieldLink RX12 143 "SlopeCoinsModel" "wide" "I", Cond.fieldLink RX12 146 "SlopeCoinsModel" "high" "I", Cond.methodLink RX12 210 yX12_rollKind, Cond.instanceMethod yX12_rollKind, Cond.selects RX12 yX12_rollKind yX12_rollKind, Cond.code yX12_rollKind cX12_rollKind 3 none, Cond.fieldLink RX12 29 "SlopeCoinsModel" "sizes" "[I", Cond.fieldLink RX12 35 "SlopeCoinsModel" "forged" "[I", Cond.methodLink RX12 203 yX12_roll, Cond.instanceMethod yX12_roll, Cond.selects RX12 yX12_roll yX12_roll, Cond.code yX12_roll cX12_roll 7 none, Cond.fieldLink RX12 190 "SlopeCoinsModel" "steps" "I", Cond.fieldLink RX12 193 "SlopeCoinsModel" "past" "I", Cond.fieldLink RX12 23 "SlopeCoinsModel" "gratings" "[I", Cond.methodLink RX12 196 yX12_wayFrom, Cond.instanceMethod yX12_wayFrom, Cond.selects RX12 yX12_wayFrom yX12_wayFrom]
def wsX12_apartOf_r2 : List Cond := [Cond.code yX12_wayFrom cX12_wayFrom 10 (some .int), Cond.fieldLink RX12 7 "SlopeCoinsModel" "row" "[I", Cond.methodLink RX12 184 yX12_isShut, Cond.instanceMethod yX12_isShut, Cond.selects RX12 yX12_isShut yX12_isShut, Cond.code yX12_isShut cX12_isShut 4 (some .boolean), Cond.fieldLink RX12 56 "SlopeCoinsModel" "triedOne" "I", Cond.fieldLink RX12 60 "SlopeCoinsModel" "triedTwo" "I", Cond.methodLink RX12 171 yX12_isEdge, Cond.instanceMethod yX12_isEdge, Cond.selects RX12 yX12_isEdge yX12_isEdge, Cond.code yX12_isEdge cX12_isEdge 5 (some .boolean), Cond.methodLink RX12 174 yX12_sideOf, Cond.instanceMethod yX12_sideOf, Cond.selects RX12 yX12_sideOf yX12_sideOf, Cond.code yX12_sideOf cX12_sideOf 3 (some .int), Cond.methodLink RX12 177 yX12_isKerb, Cond.instanceMethod yX12_isKerb, Cond.selects RX12 yX12_isKerb yX12_isKerb, Cond.code yX12_isKerb cX12_isKerb 2 (some .boolean), Cond.fieldLink RX12 26 "SlopeCoinsModel" "kerbs" "[I", Cond.methodLink RX12 168 yX12_has, Cond.static yX12_has, Cond.code yX12_has cX12_has 2 (some .boolean)]
def wsX12_apartOf_r3 : List Cond := [Cond.methodLink RX12 181 yX12_isPlank, Cond.instanceMethod yX12_isPlank, Cond.selects RX12 yX12_isPlank yX12_isPlank, Cond.code yX12_isPlank cX12_isPlank 2 (some .boolean), Cond.methodLink RX12 187 yX12_beside, Cond.instanceMethod yX12_beside, Cond.selects RX12 yX12_beside yX12_beside, Cond.code yX12_beside cX12_beside 3 (some .int)]
def wsX12_apartOf : List Cond := .code yX12_apartOf cX12_apartOf 6 (some .int) :: ((wsX12_apartOf_r1 ++ (wsX12_apartOf_r2 ++ wsX12_apartOf_r3)) ++ wsX120)
def wsX12_apart_r1 : List Cond := [Cond.methodLink RX12 220 yX12_isKind, Cond.instanceMethod yX12_isKind, Cond.selects RX12 yX12_isKind yX12_isKind, Cond.initialized RX12, Cond.code yX12_isKind cX12_isKind 2 (some .boolean), Cond.fieldLink RX12 149 "SlopeCoinsModel" "kinds" "I", Cond.methodLink RX12 68 yX12_in, Cond.static yX12_in, Cond.code yX12_in cX12_in 6 (some .boolean), Cond.methodLink RX12 282 yX12_apartOf, Cond.instanceMethod yX12_apartOf, Cond.selects RX12 yX12_apartOf yX12_apartOf, Cond.code yX12_apartOf cX12_apartOf 6 (some .int), Cond.fieldLink RX12 200 "SlopeCoinsModel" "ended" "I", Cond.methodLink RX12 223 yX12_cells, Cond.instanceMethod yX12_cells, Cond.selects RX12 yX12_cells yX12_cells, Cond.code yX12_cells cX12_cells 1 (some .int), Cond.fieldLink RX12 143 "SlopeCoinsModel" "wide" "I", Cond.fieldLink RX12 146 "SlopeCoinsModel" "high" "I", Cond.methodLink RX12 210 yX12_rollKind, Cond.instanceMethod yX12_rollKind, Cond.selects RX12 yX12_rollKind yX12_rollKind, Cond.code yX12_rollKind cX12_rollKind 3 none]
def wsX12_apart_r2 : List Cond := [Cond.fieldLink RX12 29 "SlopeCoinsModel" "sizes" "[I", Cond.fieldLink RX12 35 "SlopeCoinsModel" "forged" "[I", Cond.methodLink RX12 203 yX12_roll, Cond.instanceMethod yX12_roll, Cond.selects RX12 yX12_roll yX12_roll, Cond.code yX12_roll cX12_roll 7 none, Cond.fieldLink RX12 190 "SlopeCoinsModel" "steps" "I", Cond.fieldLink RX12 193 "SlopeCoinsModel" "past" "I", Cond.fieldLink RX12 23 "SlopeCoinsModel" "gratings" "[I", Cond.methodLink RX12 196 yX12_wayFrom, Cond.instanceMethod yX12_wayFrom, Cond.selects RX12 yX12_wayFrom yX12_wayFrom, Cond.code yX12_wayFrom cX12_wayFrom 10 (some .int), Cond.fieldLink RX12 7 "SlopeCoinsModel" "row" "[I", Cond.methodLink RX12 184 yX12_isShut, Cond.instanceMethod yX12_isShut, Cond.selects RX12 yX12_isShut yX12_isShut, Cond.code yX12_isShut cX12_isShut 4 (some .boolean), Cond.fieldLink RX12 56 "SlopeCoinsModel" "triedOne" "I", Cond.fieldLink RX12 60 "SlopeCoinsModel" "triedTwo" "I", Cond.methodLink RX12 171 yX12_isEdge, Cond.instanceMethod yX12_isEdge, Cond.selects RX12 yX12_isEdge yX12_isEdge, Cond.code yX12_isEdge cX12_isEdge 5 (some .boolean)]
def wsX12_apart_r3 : List Cond := [Cond.methodLink RX12 174 yX12_sideOf, Cond.instanceMethod yX12_sideOf, Cond.selects RX12 yX12_sideOf yX12_sideOf, Cond.code yX12_sideOf cX12_sideOf 3 (some .int), Cond.methodLink RX12 177 yX12_isKerb, Cond.instanceMethod yX12_isKerb, Cond.selects RX12 yX12_isKerb yX12_isKerb, Cond.code yX12_isKerb cX12_isKerb 2 (some .boolean), Cond.fieldLink RX12 26 "SlopeCoinsModel" "kerbs" "[I", Cond.methodLink RX12 168 yX12_has, Cond.static yX12_has, Cond.code yX12_has cX12_has 2 (some .boolean), Cond.methodLink RX12 181 yX12_isPlank, Cond.instanceMethod yX12_isPlank, Cond.selects RX12 yX12_isPlank yX12_isPlank, Cond.code yX12_isPlank cX12_isPlank 2 (some .boolean), Cond.methodLink RX12 187 yX12_beside, Cond.instanceMethod yX12_beside, Cond.selects RX12 yX12_beside yX12_beside, Cond.code yX12_beside cX12_beside 3 (some .int)]
def wsX12_apart : List Cond := .code yX12_apart cX12_apart 3 (some .int) :: ((wsX12_apart_r1 ++ (wsX12_apart_r2 ++ wsX12_apart_r3)) ++ wsX120)
def wsX12_tellsAll : List Cond := .code yX12_tellsAll cX12_tellsAll 5 (some .boolean) :: ([.fieldLink RX12 63 "SlopeCoinsModel" "aparts" "[I"] ++ wsX120)
def wsX12_rollsOf : List Cond := .code yX12_rollsOf cX12_rollsOf 9 (some .int) :: ([.methodLink RX12 223 yX12_cells, .instanceMethod yX12_cells, .selects RX12 yX12_cells yX12_cells, .initialized RX12, .code yX12_cells cX12_cells 1 (some .int), .fieldLink RX12 143 "SlopeCoinsModel" "wide" "I", .fieldLink RX12 146 "SlopeCoinsModel" "high" "I", .methodLink RX12 288 yX12_tellsAll, .instanceMethod yX12_tellsAll, .selects RX12 yX12_tellsAll yX12_tellsAll, .code yX12_tellsAll cX12_tellsAll 5 (some .boolean), .fieldLink RX12 63 "SlopeCoinsModel" "aparts" "[I"] ++ wsX120)
def wsX12_rolls_r1 : List Cond := [Cond.fieldLink RX12 149 "SlopeCoinsModel" "kinds" "I", Cond.fieldLink RX12 63 "SlopeCoinsModel" "aparts" "[I", Cond.methodLink RX12 282 yX12_apartOf, Cond.instanceMethod yX12_apartOf, Cond.selects RX12 yX12_apartOf yX12_apartOf, Cond.initialized RX12, Cond.code yX12_apartOf cX12_apartOf 6 (some .int), Cond.fieldLink RX12 200 "SlopeCoinsModel" "ended" "I", Cond.methodLink RX12 223 yX12_cells, Cond.instanceMethod yX12_cells, Cond.selects RX12 yX12_cells yX12_cells, Cond.code yX12_cells cX12_cells 1 (some .int), Cond.fieldLink RX12 143 "SlopeCoinsModel" "wide" "I", Cond.fieldLink RX12 146 "SlopeCoinsModel" "high" "I", Cond.methodLink RX12 210 yX12_rollKind, Cond.instanceMethod yX12_rollKind, Cond.selects RX12 yX12_rollKind yX12_rollKind, Cond.code yX12_rollKind cX12_rollKind 3 none, Cond.fieldLink RX12 29 "SlopeCoinsModel" "sizes" "[I", Cond.fieldLink RX12 35 "SlopeCoinsModel" "forged" "[I", Cond.methodLink RX12 203 yX12_roll, Cond.instanceMethod yX12_roll, Cond.selects RX12 yX12_roll yX12_roll, Cond.code yX12_roll cX12_roll 7 none]
def wsX12_rolls_r2 : List Cond := [Cond.fieldLink RX12 190 "SlopeCoinsModel" "steps" "I", Cond.fieldLink RX12 193 "SlopeCoinsModel" "past" "I", Cond.fieldLink RX12 23 "SlopeCoinsModel" "gratings" "[I", Cond.methodLink RX12 196 yX12_wayFrom, Cond.instanceMethod yX12_wayFrom, Cond.selects RX12 yX12_wayFrom yX12_wayFrom, Cond.code yX12_wayFrom cX12_wayFrom 10 (some .int), Cond.fieldLink RX12 7 "SlopeCoinsModel" "row" "[I", Cond.methodLink RX12 184 yX12_isShut, Cond.instanceMethod yX12_isShut, Cond.selects RX12 yX12_isShut yX12_isShut, Cond.code yX12_isShut cX12_isShut 4 (some .boolean), Cond.fieldLink RX12 56 "SlopeCoinsModel" "triedOne" "I", Cond.fieldLink RX12 60 "SlopeCoinsModel" "triedTwo" "I", Cond.methodLink RX12 171 yX12_isEdge, Cond.instanceMethod yX12_isEdge, Cond.selects RX12 yX12_isEdge yX12_isEdge, Cond.code yX12_isEdge cX12_isEdge 5 (some .boolean), Cond.methodLink RX12 174 yX12_sideOf, Cond.instanceMethod yX12_sideOf, Cond.selects RX12 yX12_sideOf yX12_sideOf, Cond.code yX12_sideOf cX12_sideOf 3 (some .int), Cond.methodLink RX12 177 yX12_isKerb, Cond.instanceMethod yX12_isKerb]
def wsX12_rolls_r3 : List Cond := [Cond.selects RX12 yX12_isKerb yX12_isKerb, Cond.code yX12_isKerb cX12_isKerb 2 (some .boolean), Cond.fieldLink RX12 26 "SlopeCoinsModel" "kerbs" "[I", Cond.methodLink RX12 168 yX12_has, Cond.static yX12_has, Cond.code yX12_has cX12_has 2 (some .boolean), Cond.methodLink RX12 181 yX12_isPlank, Cond.instanceMethod yX12_isPlank, Cond.selects RX12 yX12_isPlank yX12_isPlank, Cond.code yX12_isPlank cX12_isPlank 2 (some .boolean), Cond.methodLink RX12 187 yX12_beside, Cond.instanceMethod yX12_beside, Cond.selects RX12 yX12_beside yX12_beside, Cond.code yX12_beside cX12_beside 3 (some .int), Cond.methodLink RX12 285 yX12_rollsOf, Cond.instanceMethod yX12_rollsOf, Cond.selects RX12 yX12_rollsOf yX12_rollsOf, Cond.code yX12_rollsOf cX12_rollsOf 9 (some .int), Cond.methodLink RX12 288 yX12_tellsAll, Cond.instanceMethod yX12_tellsAll, Cond.selects RX12 yX12_tellsAll yX12_tellsAll, Cond.code yX12_tellsAll cX12_tellsAll 5 (some .boolean)]
def wsX12_rolls : List Cond := .code yX12_rolls cX12_rolls 4 (some .int) :: ((wsX12_rolls_r1 ++ (wsX12_rolls_r2 ++ wsX12_rolls_r3)) ++ wsX120)
def wsX12_saw_r1 : List Cond := [Cond.fieldLink RX12 157 "SlopeCoinsModel" "seenMany" "I", Cond.fieldLink RX12 38 "SlopeCoinsModel" "seen" "[I", Cond.methodLink RX12 220 yX12_isKind, Cond.instanceMethod yX12_isKind, Cond.selects RX12 yX12_isKind yX12_isKind, Cond.initialized RX12, Cond.code yX12_isKind cX12_isKind 2 (some .boolean), Cond.fieldLink RX12 149 "SlopeCoinsModel" "kinds" "I", Cond.methodLink RX12 68 yX12_in, Cond.static yX12_in, Cond.code yX12_in cX12_in 6 (some .boolean), Cond.methodLink RX12 263 yX12_isPair, Cond.instanceMethod yX12_isPair, Cond.selects RX12 yX12_isPair yX12_isPair, Cond.code yX12_isPair cX12_isPair 2 (some .boolean), Cond.methodLink RX12 160 yX12_isCell, Cond.instanceMethod yX12_isCell, Cond.selects RX12 yX12_isCell yX12_isCell, Cond.code yX12_isCell cX12_isCell 3 (some .boolean), Cond.fieldLink RX12 143 "SlopeCoinsModel" "wide" "I", Cond.fieldLink RX12 146 "SlopeCoinsModel" "high" "I", Cond.methodLink RX12 266 yX12_bitOf, Cond.instanceMethod yX12_bitOf, Cond.selects RX12 yX12_bitOf yX12_bitOf]
def wsX12_saw_r2 : List Cond := [Cond.code yX12_bitOf cX12_bitOf 2 (some .int), Cond.methodLink RX12 164 yX12_bit, Cond.instanceMethod yX12_bit, Cond.selects RX12 yX12_bit yX12_bit, Cond.code yX12_bit cX12_bit 3 (some .int)]
def wsX12_saw : List Cond := .code yX12_saw cX12_saw 4 (some .int) :: ((wsX12_saw_r1 ++ wsX12_saw_r2) ++ wsX120)
def wsX12_forget : List Cond := .code yX12_forget cX12_forget 2 (some .int) :: ([.fieldLink RX12 157 "SlopeCoinsModel" "seenMany" "I"] ++ wsX120)
def wsX12_moved_r1 : List Cond := [Cond.fieldLink RX12 7 "SlopeCoinsModel" "row" "[I", Cond.constantLong RX12 247 (9), Cond.methodLink RX12 68 yX12_in, Cond.static yX12_in, Cond.initialized RX12, Cond.code yX12_in cX12_in 6 (some .boolean), Cond.methodLink RX12 223 yX12_cells, Cond.instanceMethod yX12_cells, Cond.selects RX12 yX12_cells yX12_cells, Cond.code yX12_cells cX12_cells 1 (some .int), Cond.fieldLink RX12 143 "SlopeCoinsModel" "wide" "I", Cond.fieldLink RX12 146 "SlopeCoinsModel" "high" "I", Cond.methodLink RX12 252 yX12_isSo, Cond.instanceMethod yX12_isSo, Cond.selects RX12 yX12_isSo yX12_isSo, Cond.code yX12_isSo cX12_isSo 3 (some .boolean), Cond.fieldLink RX12 157 "SlopeCoinsModel" "seenMany" "I", Cond.fieldLink RX12 38 "SlopeCoinsModel" "seen" "[I", Cond.methodLink RX12 249 yX12_endOf, Cond.instanceMethod yX12_endOf, Cond.selects RX12 yX12_endOf yX12_endOf, Cond.code yX12_endOf cX12_endOf 3 (some .int), Cond.fieldLink RX12 200 "SlopeCoinsModel" "ended" "I", Cond.methodLink RX12 210 yX12_rollKind]
def wsX12_moved_r2 : List Cond := [Cond.instanceMethod yX12_rollKind, Cond.selects RX12 yX12_rollKind yX12_rollKind, Cond.code yX12_rollKind cX12_rollKind 3 none, Cond.fieldLink RX12 29 "SlopeCoinsModel" "sizes" "[I", Cond.fieldLink RX12 35 "SlopeCoinsModel" "forged" "[I", Cond.methodLink RX12 203 yX12_roll, Cond.instanceMethod yX12_roll, Cond.selects RX12 yX12_roll yX12_roll, Cond.code yX12_roll cX12_roll 7 none, Cond.fieldLink RX12 190 "SlopeCoinsModel" "steps" "I", Cond.fieldLink RX12 193 "SlopeCoinsModel" "past" "I", Cond.fieldLink RX12 23 "SlopeCoinsModel" "gratings" "[I", Cond.methodLink RX12 196 yX12_wayFrom, Cond.instanceMethod yX12_wayFrom, Cond.selects RX12 yX12_wayFrom yX12_wayFrom, Cond.code yX12_wayFrom cX12_wayFrom 10 (some .int), Cond.methodLink RX12 184 yX12_isShut, Cond.instanceMethod yX12_isShut, Cond.selects RX12 yX12_isShut yX12_isShut, Cond.code yX12_isShut cX12_isShut 4 (some .boolean), Cond.fieldLink RX12 56 "SlopeCoinsModel" "triedOne" "I", Cond.fieldLink RX12 60 "SlopeCoinsModel" "triedTwo" "I", Cond.methodLink RX12 171 yX12_isEdge, Cond.instanceMethod yX12_isEdge]
def wsX12_moved_r3 : List Cond := [Cond.selects RX12 yX12_isEdge yX12_isEdge, Cond.code yX12_isEdge cX12_isEdge 5 (some .boolean), Cond.methodLink RX12 174 yX12_sideOf, Cond.instanceMethod yX12_sideOf, Cond.selects RX12 yX12_sideOf yX12_sideOf, Cond.code yX12_sideOf cX12_sideOf 3 (some .int), Cond.methodLink RX12 177 yX12_isKerb, Cond.instanceMethod yX12_isKerb, Cond.selects RX12 yX12_isKerb yX12_isKerb, Cond.code yX12_isKerb cX12_isKerb 2 (some .boolean), Cond.fieldLink RX12 26 "SlopeCoinsModel" "kerbs" "[I", Cond.methodLink RX12 168 yX12_has, Cond.static yX12_has, Cond.code yX12_has cX12_has 2 (some .boolean), Cond.methodLink RX12 181 yX12_isPlank, Cond.instanceMethod yX12_isPlank, Cond.selects RX12 yX12_isPlank yX12_isPlank, Cond.code yX12_isPlank cX12_isPlank 2 (some .boolean), Cond.methodLink RX12 187 yX12_beside, Cond.instanceMethod yX12_beside, Cond.selects RX12 yX12_beside yX12_beside, Cond.code yX12_beside cX12_beside 3 (some .int), Cond.methodLink RX12 207 yX12_pairOf, Cond.instanceMethod yX12_pairOf]
def wsX12_moved_r4 : List Cond := [Cond.selects RX12 yX12_pairOf yX12_pairOf, Cond.code yX12_pairOf cX12_pairOf 2 (some .int)]
def wsX12_moved : List Cond := .code yX12_moved cX12_moved 9 (some .int) :: ((wsX12_moved_r1 ++ (wsX12_moved_r2 ++ (wsX12_moved_r3 ++ wsX12_moved_r4))) ++ wsX120)
def wsX12_markOfCell : List Cond := .code yX12_markOfCell cX12_markOfCell 2 (some .int) :: ([.fieldLink RX12 291 "SlopeCoinsModel" "trace" "J", .fieldLink RX12 7 "SlopeCoinsModel" "row" "[I"] ++ wsX120)
def wsX12_markOf_r1 : List Cond := [Cond.fieldLink RX12 291 "SlopeCoinsModel" "trace" "J", Cond.fieldLink RX12 7 "SlopeCoinsModel" "row" "[I", Cond.constantLong RX12 295 (10), Cond.constantLong RX12 300 (100), Cond.constantLong RX12 302 (1010), Cond.constantLong RX12 304 (10100), Cond.constantLong RX12 306 (100000), Cond.fieldLink RX12 23 "SlopeCoinsModel" "gratings" "[I", Cond.methodLink RX12 297 yX12_markOfCell, Cond.instanceMethod yX12_markOfCell, Cond.selects RX12 yX12_markOfCell yX12_markOfCell, Cond.initialized RX12, Cond.code yX12_markOfCell cX12_markOfCell 2 (some .int), Cond.methodLink RX12 217 yX12_shutWays, Cond.instanceMethod yX12_shutWays, Cond.selects RX12 yX12_shutWays yX12_shutWays, Cond.code yX12_shutWays cX12_shutWays 4 (some .int), Cond.methodLink RX12 184 yX12_isShut, Cond.instanceMethod yX12_isShut, Cond.selects RX12 yX12_isShut yX12_isShut, Cond.code yX12_isShut cX12_isShut 4 (some .boolean), Cond.fieldLink RX12 56 "SlopeCoinsModel" "triedOne" "I", Cond.fieldLink RX12 60 "SlopeCoinsModel" "triedTwo" "I", Cond.methodLink RX12 171 yX12_isEdge]
def wsX12_markOf_r2 : List Cond := [Cond.instanceMethod yX12_isEdge, Cond.selects RX12 yX12_isEdge yX12_isEdge, Cond.code yX12_isEdge cX12_isEdge 5 (some .boolean), Cond.fieldLink RX12 143 "SlopeCoinsModel" "wide" "I", Cond.fieldLink RX12 146 "SlopeCoinsModel" "high" "I", Cond.methodLink RX12 174 yX12_sideOf, Cond.instanceMethod yX12_sideOf, Cond.selects RX12 yX12_sideOf yX12_sideOf, Cond.code yX12_sideOf cX12_sideOf 3 (some .int), Cond.methodLink RX12 177 yX12_isKerb, Cond.instanceMethod yX12_isKerb, Cond.selects RX12 yX12_isKerb yX12_isKerb, Cond.code yX12_isKerb cX12_isKerb 2 (some .boolean), Cond.fieldLink RX12 26 "SlopeCoinsModel" "kerbs" "[I", Cond.methodLink RX12 168 yX12_has, Cond.static yX12_has, Cond.code yX12_has cX12_has 2 (some .boolean), Cond.methodLink RX12 181 yX12_isPlank, Cond.instanceMethod yX12_isPlank, Cond.selects RX12 yX12_isPlank yX12_isPlank, Cond.code yX12_isPlank cX12_isPlank 2 (some .boolean), Cond.methodLink RX12 276 yX12_bits, Cond.static yX12_bits, Cond.code yX12_bits cX12_bits 3 (some .int)]
def wsX12_markOf_r3 : List Cond := [Cond.methodLink RX12 214 yX12_liesOn, Cond.instanceMethod yX12_liesOn, Cond.selects RX12 yX12_liesOn yX12_liesOn, Cond.code yX12_liesOn cX12_liesOn 2 (some .int), Cond.constant RX12 167 (1048575)]
def wsX12_markOf : List Cond := .code yX12_markOf cX12_markOf 3 (some .int) :: ((wsX12_markOf_r1 ++ (wsX12_markOf_r2 ++ wsX12_markOf_r3)) ++ wsX120)
def wsX12_mark_r1 : List Cond := [Cond.constantLong RX12 308 (5), Cond.constant RX12 313 (-1000000), Cond.methodLink RX12 68 yX12_in, Cond.static yX12_in, Cond.initialized RX12, Cond.code yX12_in cX12_in 6 (some .boolean), Cond.methodLink RX12 160 yX12_isCell, Cond.instanceMethod yX12_isCell, Cond.selects RX12 yX12_isCell yX12_isCell, Cond.code yX12_isCell cX12_isCell 3 (some .boolean), Cond.fieldLink RX12 143 "SlopeCoinsModel" "wide" "I", Cond.fieldLink RX12 146 "SlopeCoinsModel" "high" "I", Cond.methodLink RX12 164 yX12_bit, Cond.instanceMethod yX12_bit, Cond.selects RX12 yX12_bit yX12_bit, Cond.code yX12_bit cX12_bit 3 (some .int), Cond.methodLink RX12 310 yX12_markOf, Cond.instanceMethod yX12_markOf, Cond.selects RX12 yX12_markOf yX12_markOf, Cond.code yX12_markOf cX12_markOf 3 (some .int), Cond.fieldLink RX12 291 "SlopeCoinsModel" "trace" "J", Cond.fieldLink RX12 7 "SlopeCoinsModel" "row" "[I", Cond.constantLong RX12 295 (10), Cond.constantLong RX12 300 (100)]
def wsX12_mark_r2 : List Cond := [Cond.constantLong RX12 302 (1010), Cond.constantLong RX12 304 (10100), Cond.constantLong RX12 306 (100000), Cond.fieldLink RX12 23 "SlopeCoinsModel" "gratings" "[I", Cond.methodLink RX12 297 yX12_markOfCell, Cond.instanceMethod yX12_markOfCell, Cond.selects RX12 yX12_markOfCell yX12_markOfCell, Cond.code yX12_markOfCell cX12_markOfCell 2 (some .int), Cond.methodLink RX12 217 yX12_shutWays, Cond.instanceMethod yX12_shutWays, Cond.selects RX12 yX12_shutWays yX12_shutWays, Cond.code yX12_shutWays cX12_shutWays 4 (some .int), Cond.methodLink RX12 184 yX12_isShut, Cond.instanceMethod yX12_isShut, Cond.selects RX12 yX12_isShut yX12_isShut, Cond.code yX12_isShut cX12_isShut 4 (some .boolean), Cond.fieldLink RX12 56 "SlopeCoinsModel" "triedOne" "I", Cond.fieldLink RX12 60 "SlopeCoinsModel" "triedTwo" "I", Cond.methodLink RX12 171 yX12_isEdge, Cond.instanceMethod yX12_isEdge, Cond.selects RX12 yX12_isEdge yX12_isEdge, Cond.code yX12_isEdge cX12_isEdge 5 (some .boolean), Cond.methodLink RX12 174 yX12_sideOf, Cond.instanceMethod yX12_sideOf]
def wsX12_mark_r3 : List Cond := [Cond.selects RX12 yX12_sideOf yX12_sideOf, Cond.code yX12_sideOf cX12_sideOf 3 (some .int), Cond.methodLink RX12 177 yX12_isKerb, Cond.instanceMethod yX12_isKerb, Cond.selects RX12 yX12_isKerb yX12_isKerb, Cond.code yX12_isKerb cX12_isKerb 2 (some .boolean), Cond.fieldLink RX12 26 "SlopeCoinsModel" "kerbs" "[I", Cond.methodLink RX12 168 yX12_has, Cond.static yX12_has, Cond.code yX12_has cX12_has 2 (some .boolean), Cond.methodLink RX12 181 yX12_isPlank, Cond.instanceMethod yX12_isPlank, Cond.selects RX12 yX12_isPlank yX12_isPlank, Cond.code yX12_isPlank cX12_isPlank 2 (some .boolean), Cond.methodLink RX12 276 yX12_bits, Cond.static yX12_bits, Cond.code yX12_bits cX12_bits 3 (some .int), Cond.methodLink RX12 214 yX12_liesOn, Cond.instanceMethod yX12_liesOn, Cond.selects RX12 yX12_liesOn yX12_liesOn, Cond.code yX12_liesOn cX12_liesOn 2 (some .int), Cond.constant RX12 167 (1048575)]
def wsX12_mark : List Cond := .code yX12_mark cX12_mark 4 (some .int) :: ((wsX12_mark_r1 ++ (wsX12_mark_r2 ++ wsX12_mark_r3)) ++ wsX120)
def wsX12_copyRow : List Cond := .code yX12_copyRow cX12_copyRow 4 none :: ([.fieldLink RX12 7 "SlopeCoinsModel" "row" "[I"] ++ wsX120)
def wsX12_keep_r1 : List Cond := [Cond.fieldLink RX12 13 "SlopeCoinsModel" "isKept" "[Z", Cond.methodLink RX12 68 yX12_in, Cond.static yX12_in, Cond.initialized RX12, Cond.code yX12_in cX12_in 6 (some .boolean), Cond.methodLink RX12 314 yX12_copyRow, Cond.instanceMethod yX12_copyRow, Cond.selects RX12 yX12_copyRow yX12_copyRow, Cond.code yX12_copyRow cX12_copyRow 4 none, Cond.fieldLink RX12 7 "SlopeCoinsModel" "row" "[I", Cond.methodLink RX12 226 yX12_lying, Cond.instanceMethod yX12_lying, Cond.selects RX12 yX12_lying yX12_lying, Cond.code yX12_lying cX12_lying 3 (some .int), Cond.methodLink RX12 223 yX12_cells, Cond.instanceMethod yX12_cells, Cond.selects RX12 yX12_cells yX12_cells, Cond.code yX12_cells cX12_cells 1 (some .int), Cond.fieldLink RX12 143 "SlopeCoinsModel" "wide" "I", Cond.fieldLink RX12 146 "SlopeCoinsModel" "high" "I", Cond.methodLink RX12 214 yX12_liesOn, Cond.instanceMethod yX12_liesOn, Cond.selects RX12 yX12_liesOn yX12_liesOn, Cond.code yX12_liesOn cX12_liesOn 2 (some .int)]
def wsX12_keep_r2 : List Cond := [Cond.constant RX12 167 (1048575)]
def wsX12_keep : List Cond := .code yX12_keep cX12_keep 2 (some .int) :: ((wsX12_keep_r1 ++ wsX12_keep_r2) ++ wsX120)
def wsX12_back_r1 : List Cond := [Cond.fieldLink RX12 13 "SlopeCoinsModel" "isKept" "[Z", Cond.methodLink RX12 68 yX12_in, Cond.static yX12_in, Cond.initialized RX12, Cond.code yX12_in cX12_in 6 (some .boolean), Cond.methodLink RX12 314 yX12_copyRow, Cond.instanceMethod yX12_copyRow, Cond.selects RX12 yX12_copyRow yX12_copyRow, Cond.code yX12_copyRow cX12_copyRow 4 none, Cond.fieldLink RX12 7 "SlopeCoinsModel" "row" "[I", Cond.methodLink RX12 226 yX12_lying, Cond.instanceMethod yX12_lying, Cond.selects RX12 yX12_lying yX12_lying, Cond.code yX12_lying cX12_lying 3 (some .int), Cond.methodLink RX12 223 yX12_cells, Cond.instanceMethod yX12_cells, Cond.selects RX12 yX12_cells yX12_cells, Cond.code yX12_cells cX12_cells 1 (some .int), Cond.fieldLink RX12 143 "SlopeCoinsModel" "wide" "I", Cond.fieldLink RX12 146 "SlopeCoinsModel" "high" "I", Cond.methodLink RX12 214 yX12_liesOn, Cond.instanceMethod yX12_liesOn, Cond.selects RX12 yX12_liesOn yX12_liesOn, Cond.code yX12_liesOn cX12_liesOn 2 (some .int)]
def wsX12_back_r2 : List Cond := [Cond.constant RX12 167 (1048575)]
def wsX12_back : List Cond := .code yX12_back cX12_back 2 (some .int) :: ((wsX12_back_r1 ++ wsX12_back_r2) ++ wsX120)
def wsX12_count : List Cond := .code yX12_count cX12_count 2 (some .int) :: ([.fieldLink RX12 143 "SlopeCoinsModel" "wide" "I", .fieldLink RX12 146 "SlopeCoinsModel" "high" "I", .fieldLink RX12 152 "SlopeCoinsModel" "gratingMany" "I", .fieldLink RX12 149 "SlopeCoinsModel" "kinds" "I", .fieldLink RX12 157 "SlopeCoinsModel" "seenMany" "I", .fieldLink RX12 7 "SlopeCoinsModel" "row" "[I", .fieldLink RX12 72 "SlopeCoinsModel" "length" "I"] ++ wsX120)
def wsX12_trace : List Cond := .code yX12_trace cX12_trace 1 (some .long) :: ([.fieldLink RX12 291 "SlopeCoinsModel" "trace" "J"] ++ wsX120)
def wsJ9_max_7cf53 : List Cond := .code yJ9_max_7cf53 cJ9_max_7cf53 2 (some .int) :: ([])
def wsJ9_min_7cf53 : List Cond := .code yJ9_min_7cf53 cJ9_min_7cf53 2 (some .int) :: ([])
set_option maxRecDepth 20000 in
theorem ggX0_init_X9_init : GoodIn wsX0_init wsX9_init := goodIn_r _ [3, 4, 5, 6, 7, 8, 9] (by decide +kernel) (by decide +kernel)
set_option maxRecDepth 20000 in
theorem gX0_init_X9_init_n1 : GoodIn wsX0_init (wsX9_init) := ggX0_init_X9_init
theorem dX0_init_0 : decode cX0_init 0 = .ok (.aload_n 0, 1) := by decide +kernel
theorem dX0_init_1 : decode cX0_init 1 = .ok (.invokespecial 1, 3) := by decide +kernel
theorem dX0_init_4 : decode cX0_init 4 = .ok (.return_, 1) := by decide +kernel
set_option maxRecDepth 20000 in
theorem ggX0_ask_X9_ask : GoodIn wsX0_ask wsX9_ask := goodIn_r _ [8, 9, 10, 11, 12, 13, 14, 15, 16, 17, 18, 19, 20, 21, 22, 23, 24, 25, 26, 27, 28, 29, 30, 31, 32, 33, 34, 35, 36, 37, 38, 39, 40, 41, 42, 43, 44, 45, 46] (by decide +kernel) (by decide +kernel)
set_option maxRecDepth 20000 in
theorem gX0_ask_X9_ask_s15 : GoodIn wsX0_ask (va_wsSU RX0 15 yX9_ask wsX9_ask) := goodIn_app (goodIn_of _ (by decide +kernel)) ggX0_ask_X9_ask
theorem dX0_ask_0 : decode cX0_ask 0 = .ok (.aload_n 1, 1) := by decide +kernel
theorem dX0_ask_1 : decode cX0_ask 1 = .ok (.dup, 1) := by decide +kernel
theorem dX0_ask_2 : decode cX0_ask 2 = .ok (.getfield 7, 3) := by decide +kernel
theorem dX0_ask_5 : decode cX0_ask 5 = .ok (.ldc2_w 13, 3) := by decide +kernel
theorem dX0_ask_8 : decode cX0_ask 8 = .ok (.ladd, 1) := by decide +kernel
theorem dX0_ask_9 : decode cX0_ask 9 = .ok (.putfield 7, 3) := by decide +kernel
theorem dX0_ask_12 : decode cX0_ask 12 = .ok (.aload_n 0, 1) := by decide +kernel
theorem dX0_ask_13 : decode cX0_ask 13 = .ok (.aload_n 1, 1) := by decide +kernel
theorem dX0_ask_14 : decode cX0_ask 14 = .ok (.iload_n 2, 1) := by decide +kernel
theorem dX0_ask_15 : decode cX0_ask 15 = .ok (.invokespecial 15, 3) := by decide +kernel
theorem dX0_ask_18 : decode cX0_ask 18 = .ok (.aload_n 1, 1) := by decide +kernel
theorem dX0_ask_19 : decode cX0_ask 19 = .ok (.getfield 19, 3) := by decide +kernel
theorem dX0_ask_22 : decode cX0_ask 22 = .ok (.getfield 23, 3) := by decide +kernel
theorem dX0_ask_25 : decode cX0_ask 25 = .ok (.iload_n 2, 1) := by decide +kernel
theorem dX0_ask_26 : decode cX0_ask 26 = .ok (.iaload, 1) := by decide +kernel
theorem dX0_ask_27 : decode cX0_ask 27 = .ok (.iadd, 1) := by decide +kernel
theorem dX0_ask_28 : decode cX0_ask 28 = .ok (.ireturn, 1) := by decide +kernel
theorem dX1_init_0 : decode cX1_init 0 = .ok (.aload_n 0, 1) := by decide +kernel
theorem dX1_init_1 : decode cX1_init 1 = .ok (.invokespecial 1, 3) := by decide +kernel
theorem dX1_init_4 : decode cX1_init 4 = .ok (.return_, 1) := by decide +kernel
theorem dX1_ask_0 : decode cX1_ask 0 = .ok (.aload_n 1, 1) := by decide +kernel
theorem dX1_ask_1 : decode cX1_ask 1 = .ok (.dup, 1) := by decide +kernel
theorem dX1_ask_2 : decode cX1_ask 2 = .ok (.getfield 7, 3) := by decide +kernel
theorem dX1_ask_5 : decode cX1_ask 5 = .ok (.lconst 1, 1) := by decide +kernel
theorem dX1_ask_6 : decode cX1_ask 6 = .ok (.ladd, 1) := by decide +kernel
theorem dX1_ask_7 : decode cX1_ask 7 = .ok (.putfield 7, 3) := by decide +kernel
theorem dX1_ask_10 : decode cX1_ask 10 = .ok (.aload_n 1, 1) := by decide +kernel
theorem dX1_ask_11 : decode cX1_ask 11 = .ok (.getfield 13, 3) := by decide +kernel
theorem dX1_ask_14 : decode cX1_ask 14 = .ok (.getfield 17, 3) := by decide +kernel
theorem dX1_ask_17 : decode cX1_ask 17 = .ok (.iload_n 2, 1) := by decide +kernel
theorem dX1_ask_18 : decode cX1_ask 18 = .ok (.iaload, 1) := by decide +kernel
theorem dX1_ask_19 : decode cX1_ask 19 = .ok (.ireturn, 1) := by decide +kernel
theorem dX2_init_0 : decode cX2_init 0 = .ok (.aload_n 0, 1) := by decide +kernel
theorem dX2_init_1 : decode cX2_init 1 = .ok (.invokespecial 3, 3) := by decide +kernel
theorem dX2_init_4 : decode cX2_init 4 = .ok (.aload_n 0, 1) := by decide +kernel
theorem dX2_init_5 : decode cX2_init 5 = .ok (.bipush 30, 2) := by decide +kernel
theorem dX2_init_7 : decode cX2_init 7 = .ok (.newarray .int, 2) := by decide +kernel
theorem dX2_init_9 : decode cX2_init 9 = .ok (.putfield 9, 3) := by decide +kernel
theorem dX2_init_12 : decode cX2_init 12 = .ok (.aload_n 0, 1) := by decide +kernel
theorem dX2_init_13 : decode cX2_init 13 = .ok (.bipush 30, 2) := by decide +kernel
theorem dX2_init_15 : decode cX2_init 15 = .ok (.newarray .int, 2) := by decide +kernel
theorem dX2_init_17 : decode cX2_init 17 = .ok (.putfield 15, 3) := by decide +kernel
theorem dX2_init_20 : decode cX2_init 20 = .ok (.aload_n 0, 1) := by decide +kernel
theorem dX2_init_21 : decode cX2_init 21 = .ok (.bipush 30, 2) := by decide +kernel
theorem dX2_init_23 : decode cX2_init 23 = .ok (.newarray .int, 2) := by decide +kernel
theorem dX2_init_25 : decode cX2_init 25 = .ok (.putfield 18, 3) := by decide +kernel
theorem dX2_init_28 : decode cX2_init 28 = .ok (.aload_n 0, 1) := by decide +kernel
theorem dX2_init_29 : decode cX2_init 29 = .ok (.bipush 120, 2) := by decide +kernel
theorem dX2_init_31 : decode cX2_init 31 = .ok (.newarray .int, 2) := by decide +kernel
theorem dX2_init_33 : decode cX2_init 33 = .ok (.putfield 21, 3) := by decide +kernel
theorem dX2_init_36 : decode cX2_init 36 = .ok (.aload_n 0, 1) := by decide +kernel
theorem dX2_init_37 : decode cX2_init 37 = .ok (.iconst 5, 1) := by decide +kernel
theorem dX2_init_38 : decode cX2_init 38 = .ok (.newarray .int, 2) := by decide +kernel
theorem dX2_init_40 : decode cX2_init 40 = .ok (.putfield 24, 3) := by decide +kernel
theorem dX2_init_43 : decode cX2_init 43 = .ok (.aload_n 0, 1) := by decide +kernel
theorem dX2_init_44 : decode cX2_init 44 = .ok (.iconst 5, 1) := by decide +kernel
theorem dX2_init_45 : decode cX2_init 45 = .ok (.newarray .int, 2) := by decide +kernel
theorem dX2_init_47 : decode cX2_init 47 = .ok (.putfield 27, 3) := by decide +kernel
theorem dX2_init_50 : decode cX2_init 50 = .ok (.aload_n 0, 1) := by decide +kernel
theorem dX2_init_51 : decode cX2_init 51 = .ok (.iconst 5, 1) := by decide +kernel
theorem dX2_init_52 : decode cX2_init 52 = .ok (.newarray .int, 2) := by decide +kernel
theorem dX2_init_54 : decode cX2_init 54 = .ok (.putfield 30, 3) := by decide +kernel
theorem dX2_init_57 : decode cX2_init 57 = .ok (.return_, 1) := by decide +kernel
set_option maxRecDepth 20000 in
theorem ggX2_wipe_J7_fill_53178 : GoodIn wsX2_wipe wsJ7_fill_53178 := goodIn_r _ [11] (by decide +kernel) (by decide +kernel)
set_option maxRecDepth 20000 in
theorem gX2_wipe_J7_fill_53178 : GoodIn wsX2_wipe (va_wsS RX2 49 yJ7_fill_53178 wsJ7_fill_53178) := goodIn_app (goodIn_of _ (by decide +kernel)) ggX2_wipe_J7_fill_53178
theorem dX2_wipe_0 : decode cX2_wipe 0 = .ok (.aload_n 0, 1) := by decide +kernel
theorem dX2_wipe_1 : decode cX2_wipe 1 = .ok (.iconst 0, 1) := by decide +kernel
theorem dX2_wipe_2 : decode cX2_wipe 2 = .ok (.putfield 33, 3) := by decide +kernel
theorem dX2_wipe_5 : decode cX2_wipe 5 = .ok (.aload_n 0, 1) := by decide +kernel
theorem dX2_wipe_6 : decode cX2_wipe 6 = .ok (.iconst 0, 1) := by decide +kernel
theorem dX2_wipe_7 : decode cX2_wipe 7 = .ok (.putfield 37, 3) := by decide +kernel
theorem dX2_wipe_10 : decode cX2_wipe 10 = .ok (.aload_n 0, 1) := by decide +kernel
theorem dX2_wipe_11 : decode cX2_wipe 11 = .ok (.iconst 0, 1) := by decide +kernel
theorem dX2_wipe_12 : decode cX2_wipe 12 = .ok (.putfield 40, 3) := by decide +kernel
theorem dX2_wipe_15 : decode cX2_wipe 15 = .ok (.aload_n 0, 1) := by decide +kernel
theorem dX2_wipe_16 : decode cX2_wipe 16 = .ok (.iconst 0, 1) := by decide +kernel
theorem dX2_wipe_17 : decode cX2_wipe 17 = .ok (.putfield 43, 3) := by decide +kernel
theorem dX2_wipe_20 : decode cX2_wipe 20 = .ok (.aload_n 0, 1) := by decide +kernel
theorem dX2_wipe_21 : decode cX2_wipe 21 = .ok (.iconst 0, 1) := by decide +kernel
theorem dX2_wipe_22 : decode cX2_wipe 22 = .ok (.putfield 46, 3) := by decide +kernel
theorem dX2_wipe_25 : decode cX2_wipe 25 = .ok (.aload_n 0, 1) := by decide +kernel
theorem dX2_wipe_26 : decode cX2_wipe 26 = .ok (.getfield 15, 3) := by decide +kernel
theorem dX2_wipe_29 : decode cX2_wipe 29 = .ok (.iconst 0, 1) := by decide +kernel
theorem dX2_wipe_30 : decode cX2_wipe 30 = .ok (.invokestatic 49, 3) := by decide +kernel
theorem dX2_wipe_33 : decode cX2_wipe 33 = .ok (.aload_n 0, 1) := by decide +kernel
theorem dX2_wipe_34 : decode cX2_wipe 34 = .ok (.getfield 18, 3) := by decide +kernel
theorem dX2_wipe_37 : decode cX2_wipe 37 = .ok (.iconst 0, 1) := by decide +kernel
theorem dX2_wipe_38 : decode cX2_wipe 38 = .ok (.invokestatic 49, 3) := by decide +kernel
theorem dX2_wipe_41 : decode cX2_wipe 41 = .ok (.return_, 1) := by decide +kernel
set_option maxRecDepth 20000 in
theorem ggX2_stretch_X2_cellAt : GoodIn wsX2_stretch wsX2_cellAt := goodIn_r _ [8, 1, 2, 15, 16, 17, 18, 19, 20, 21, 22, 23, 24, 25, 26] (by decide +kernel) (by decide +kernel)
set_option maxRecDepth 20000 in
theorem gX2_stretch_X2_cellAt : GoodIn wsX2_stretch (wsV RX2 55 RX2 yX2_cellAt wsX2_cellAt) := goodIn_app (goodIn_of _ (by decide +kernel)) ggX2_stretch_X2_cellAt
set_option maxRecDepth 20000 in
theorem ggX2_stretch_X2_noteBeside : GoodIn wsX2_stretch wsX2_noteBeside := goodIn_r _ [12, 13, 14, 15, 16, 17, 18, 19, 20, 21, 22, 23, 24, 25, 26] (by decide +kernel) (by decide +kernel)
set_option maxRecDepth 20000 in
theorem gX2_stretch_X2_noteBeside : GoodIn wsX2_stretch (wsV RX2 59 RX2 yX2_noteBeside wsX2_noteBeside) := goodIn_app (goodIn_of _ (by decide +kernel)) ggX2_stretch_X2_noteBeside
theorem dX2_stretch_0 : decode cX2_stretch 0 = .ok (.aload_n 0, 1) := by decide +kernel
theorem dX2_stretch_1 : decode cX2_stretch 1 = .ok (.iload_n 1, 1) := by decide +kernel
theorem dX2_stretch_2 : decode cX2_stretch 2 = .ok (.putfield 33, 3) := by decide +kernel
theorem dX2_stretch_5 : decode cX2_stretch 5 = .ok (.aload_n 0, 1) := by decide +kernel
theorem dX2_stretch_6 : decode cX2_stretch 6 = .ok (.iload_n 2, 1) := by decide +kernel
theorem dX2_stretch_7 : decode cX2_stretch 7 = .ok (.putfield 37, 3) := by decide +kernel
theorem dX2_stretch_10 : decode cX2_stretch 10 = .ok (.aload_n 0, 1) := by decide +kernel
theorem dX2_stretch_11 : decode cX2_stretch 11 = .ok (.iload_n 1, 1) := by decide +kernel
theorem dX2_stretch_12 : decode cX2_stretch 12 = .ok (.iload_n 2, 1) := by decide +kernel
theorem dX2_stretch_13 : decode cX2_stretch 13 = .ok (.imul, 1) := by decide +kernel
theorem dX2_stretch_14 : decode cX2_stretch 14 = .ok (.putfield 40, 3) := by decide +kernel
theorem dX2_stretch_17 : decode cX2_stretch 17 = .ok (.iconst 0, 1) := by decide +kernel
theorem dX2_stretch_18 : decode cX2_stretch 18 = .ok (.istore_n 3, 1) := by decide +kernel
theorem dX2_stretch_19 : decode cX2_stretch 19 = .ok (.iload_n 3, 1) := by decide +kernel
theorem dX2_stretch_20 : decode cX2_stretch 20 = .ok (.aload_n 0, 1) := by decide +kernel
theorem dX2_stretch_21 : decode cX2_stretch 21 = .ok (.getfield 37, 3) := by decide +kernel
theorem dX2_stretch_24 : decode cX2_stretch 24 = .ok (.if_icmp .ge 100, 3) := by decide +kernel
theorem dX2_stretch_27 : decode cX2_stretch 27 = .ok (.iconst 0, 1) := by decide +kernel
theorem dX2_stretch_28 : decode cX2_stretch 28 = .ok (.istore 4, 2) := by decide +kernel
theorem dX2_stretch_30 : decode cX2_stretch 30 = .ok (.iload 4, 2) := by decide +kernel
theorem dX2_stretch_32 : decode cX2_stretch 32 = .ok (.aload_n 0, 1) := by decide +kernel
theorem dX2_stretch_33 : decode cX2_stretch 33 = .ok (.getfield 33, 3) := by decide +kernel
theorem dX2_stretch_36 : decode cX2_stretch 36 = .ok (.if_icmp .ge 82, 3) := by decide +kernel
theorem dX2_stretch_39 : decode cX2_stretch 39 = .ok (.aload_n 0, 1) := by decide +kernel
theorem dX2_stretch_40 : decode cX2_stretch 40 = .ok (.iload 4, 2) := by decide +kernel
theorem dX2_stretch_42 : decode cX2_stretch 42 = .ok (.iload_n 3, 1) := by decide +kernel
theorem dX2_stretch_43 : decode cX2_stretch 43 = .ok (.invokevirtual 55, 3) := by decide +kernel
theorem dX2_stretch_46 : decode cX2_stretch 46 = .ok (.istore 5, 2) := by decide +kernel
theorem dX2_stretch_48 : decode cX2_stretch 48 = .ok (.aload_n 0, 1) := by decide +kernel
theorem dX2_stretch_49 : decode cX2_stretch 49 = .ok (.iload 5, 2) := by decide +kernel
theorem dX2_stretch_51 : decode cX2_stretch 51 = .ok (.iconst 0, 1) := by decide +kernel
theorem dX2_stretch_52 : decode cX2_stretch 52 = .ok (.aload_n 0, 1) := by decide +kernel
theorem dX2_stretch_53 : decode cX2_stretch 53 = .ok (.iload 4, 2) := by decide +kernel
theorem dX2_stretch_55 : decode cX2_stretch 55 = .ok (.iload_n 3, 1) := by decide +kernel
theorem dX2_stretch_56 : decode cX2_stretch 56 = .ok (.iconst 1, 1) := by decide +kernel
theorem dX2_stretch_57 : decode cX2_stretch 57 = .ok (.isub, 1) := by decide +kernel
theorem dX2_stretch_58 : decode cX2_stretch 58 = .ok (.invokevirtual 55, 3) := by decide +kernel
theorem dX2_stretch_61 : decode cX2_stretch 61 = .ok (.invokevirtual 59, 3) := by decide +kernel
theorem dX2_stretch_64 : decode cX2_stretch 64 = .ok (.aload_n 0, 1) := by decide +kernel
theorem dX2_stretch_65 : decode cX2_stretch 65 = .ok (.iload 5, 2) := by decide +kernel
theorem dX2_stretch_67 : decode cX2_stretch 67 = .ok (.iconst 1, 1) := by decide +kernel
theorem dX2_stretch_68 : decode cX2_stretch 68 = .ok (.aload_n 0, 1) := by decide +kernel
theorem dX2_stretch_69 : decode cX2_stretch 69 = .ok (.iload 4, 2) := by decide +kernel
theorem dX2_stretch_71 : decode cX2_stretch 71 = .ok (.iconst 1, 1) := by decide +kernel
theorem dX2_stretch_72 : decode cX2_stretch 72 = .ok (.iadd, 1) := by decide +kernel
theorem dX2_stretch_73 : decode cX2_stretch 73 = .ok (.iload_n 3, 1) := by decide +kernel
theorem dX2_stretch_74 : decode cX2_stretch 74 = .ok (.invokevirtual 55, 3) := by decide +kernel
theorem dX2_stretch_77 : decode cX2_stretch 77 = .ok (.invokevirtual 59, 3) := by decide +kernel
theorem dX2_stretch_80 : decode cX2_stretch 80 = .ok (.aload_n 0, 1) := by decide +kernel
theorem dX2_stretch_81 : decode cX2_stretch 81 = .ok (.iload 5, 2) := by decide +kernel
theorem dX2_stretch_83 : decode cX2_stretch 83 = .ok (.iconst 2, 1) := by decide +kernel
theorem dX2_stretch_84 : decode cX2_stretch 84 = .ok (.aload_n 0, 1) := by decide +kernel
theorem dX2_stretch_85 : decode cX2_stretch 85 = .ok (.iload 4, 2) := by decide +kernel
theorem dX2_stretch_87 : decode cX2_stretch 87 = .ok (.iload_n 3, 1) := by decide +kernel
theorem dX2_stretch_88 : decode cX2_stretch 88 = .ok (.iconst 1, 1) := by decide +kernel
theorem dX2_stretch_89 : decode cX2_stretch 89 = .ok (.iadd, 1) := by decide +kernel
theorem dX2_stretch_90 : decode cX2_stretch 90 = .ok (.invokevirtual 55, 3) := by decide +kernel
theorem dX2_stretch_93 : decode cX2_stretch 93 = .ok (.invokevirtual 59, 3) := by decide +kernel
theorem dX2_stretch_96 : decode cX2_stretch 96 = .ok (.aload_n 0, 1) := by decide +kernel
theorem dX2_stretch_97 : decode cX2_stretch 97 = .ok (.iload 5, 2) := by decide +kernel
theorem dX2_stretch_99 : decode cX2_stretch 99 = .ok (.iconst 3, 1) := by decide +kernel
theorem dX2_stretch_100 : decode cX2_stretch 100 = .ok (.aload_n 0, 1) := by decide +kernel
theorem dX2_stretch_101 : decode cX2_stretch 101 = .ok (.iload 4, 2) := by decide +kernel
theorem dX2_stretch_103 : decode cX2_stretch 103 = .ok (.iconst 1, 1) := by decide +kernel
theorem dX2_stretch_104 : decode cX2_stretch 104 = .ok (.isub, 1) := by decide +kernel
theorem dX2_stretch_105 : decode cX2_stretch 105 = .ok (.iload_n 3, 1) := by decide +kernel
theorem dX2_stretch_106 : decode cX2_stretch 106 = .ok (.invokevirtual 55, 3) := by decide +kernel
theorem dX2_stretch_109 : decode cX2_stretch 109 = .ok (.invokevirtual 59, 3) := by decide +kernel
theorem dX2_stretch_112 : decode cX2_stretch 112 = .ok (.iinc 4 1, 3) := by decide +kernel
theorem dX2_stretch_115 : decode cX2_stretch 115 = .ok (.goto (-85), 3) := by decide +kernel
theorem dX2_stretch_118 : decode cX2_stretch 118 = .ok (.iinc 3 1, 3) := by decide +kernel
theorem dX2_stretch_121 : decode cX2_stretch 121 = .ok (.goto (-102), 3) := by decide +kernel
theorem dX2_stretch_124 : decode cX2_stretch 124 = .ok (.return_, 1) := by decide +kernel
theorem dX2_noteBeside_0 : decode cX2_noteBeside 0 = .ok (.aload_n 0, 1) := by decide +kernel
theorem dX2_noteBeside_1 : decode cX2_noteBeside 1 = .ok (.getfield 21, 3) := by decide +kernel
theorem dX2_noteBeside_4 : decode cX2_noteBeside 4 = .ok (.iconst 4, 1) := by decide +kernel
theorem dX2_noteBeside_5 : decode cX2_noteBeside 5 = .ok (.iload_n 1, 1) := by decide +kernel
theorem dX2_noteBeside_6 : decode cX2_noteBeside 6 = .ok (.imul, 1) := by decide +kernel
theorem dX2_noteBeside_7 : decode cX2_noteBeside 7 = .ok (.iload_n 2, 1) := by decide +kernel
theorem dX2_noteBeside_8 : decode cX2_noteBeside 8 = .ok (.iadd, 1) := by decide +kernel
theorem dX2_noteBeside_9 : decode cX2_noteBeside 9 = .ok (.iload_n 3, 1) := by decide +kernel
theorem dX2_noteBeside_10 : decode cX2_noteBeside 10 = .ok (.iastore, 1) := by decide +kernel
theorem dX2_noteBeside_11 : decode cX2_noteBeside 11 = .ok (.iload_n 3, 1) := by decide +kernel
theorem dX2_noteBeside_12 : decode cX2_noteBeside 12 = .ok (.iconst (-1), 1) := by decide +kernel
theorem dX2_noteBeside_13 : decode cX2_noteBeside 13 = .ok (.if_icmp .ne 15, 3) := by decide +kernel
theorem dX2_noteBeside_16 : decode cX2_noteBeside 16 = .ok (.aload_n 0, 1) := by decide +kernel
theorem dX2_noteBeside_17 : decode cX2_noteBeside 17 = .ok (.getfield 15, 3) := by decide +kernel
theorem dX2_noteBeside_20 : decode cX2_noteBeside 20 = .ok (.iload_n 1, 1) := by decide +kernel
theorem dX2_noteBeside_21 : decode cX2_noteBeside 21 = .ok (.dup2, 1) := by decide +kernel
theorem dX2_noteBeside_22 : decode cX2_noteBeside 22 = .ok (.iaload, 1) := by decide +kernel
theorem dX2_noteBeside_23 : decode cX2_noteBeside 23 = .ok (.iconst 1, 1) := by decide +kernel
theorem dX2_noteBeside_24 : decode cX2_noteBeside 24 = .ok (.iload_n 2, 1) := by decide +kernel
theorem dX2_noteBeside_25 : decode cX2_noteBeside 25 = .ok (.ishl, 1) := by decide +kernel
theorem dX2_noteBeside_26 : decode cX2_noteBeside 26 = .ok (.ior, 1) := by decide +kernel
theorem dX2_noteBeside_27 : decode cX2_noteBeside 27 = .ok (.iastore, 1) := by decide +kernel
theorem dX2_noteBeside_28 : decode cX2_noteBeside 28 = .ok (.return_, 1) := by decide +kernel
set_option maxRecDepth 20000 in
theorem ggX2_addKerb_X2_besideOf : GoodIn wsX2_addKerb wsX2_besideOf := goodIn_r _ [6, 7, 11, 12, 13, 14, 15, 16, 17, 18, 19, 20, 21, 22] (by decide +kernel) (by decide +kernel)
set_option maxRecDepth 20000 in
theorem gX2_addKerb_X2_besideOf : GoodIn wsX2_addKerb (wsV RX2 63 RX2 yX2_besideOf wsX2_besideOf) := goodIn_app (goodIn_of _ (by decide +kernel)) ggX2_addKerb_X2_besideOf
set_option maxRecDepth 20000 in
theorem ggX2_addKerb_X2_facing : GoodIn wsX2_addKerb wsX2_facing := goodIn_r _ [10] (by decide +kernel) (by decide +kernel)
set_option maxRecDepth 20000 in
theorem gX2_addKerb_X2_facing : GoodIn wsX2_addKerb (va_wsS RX2 66 yX2_facing wsX2_facing) := goodIn_app (goodIn_of _ (by decide +kernel)) ggX2_addKerb_X2_facing
theorem dX2_addKerb_0 : decode cX2_addKerb 0 = .ok (.aload_n 0, 1) := by decide +kernel
theorem dX2_addKerb_1 : decode cX2_addKerb 1 = .ok (.getfield 15, 3) := by decide +kernel
theorem dX2_addKerb_4 : decode cX2_addKerb 4 = .ok (.iload_n 1, 1) := by decide +kernel
theorem dX2_addKerb_5 : decode cX2_addKerb 5 = .ok (.dup2, 1) := by decide +kernel
theorem dX2_addKerb_6 : decode cX2_addKerb 6 = .ok (.iaload, 1) := by decide +kernel
theorem dX2_addKerb_7 : decode cX2_addKerb 7 = .ok (.iconst 1, 1) := by decide +kernel
theorem dX2_addKerb_8 : decode cX2_addKerb 8 = .ok (.iload_n 2, 1) := by decide +kernel
theorem dX2_addKerb_9 : decode cX2_addKerb 9 = .ok (.ishl, 1) := by decide +kernel
theorem dX2_addKerb_10 : decode cX2_addKerb 10 = .ok (.ior, 1) := by decide +kernel
theorem dX2_addKerb_11 : decode cX2_addKerb 11 = .ok (.iastore, 1) := by decide +kernel
theorem dX2_addKerb_12 : decode cX2_addKerb 12 = .ok (.aload_n 0, 1) := by decide +kernel
theorem dX2_addKerb_13 : decode cX2_addKerb 13 = .ok (.iload_n 1, 1) := by decide +kernel
theorem dX2_addKerb_14 : decode cX2_addKerb 14 = .ok (.iload_n 2, 1) := by decide +kernel
theorem dX2_addKerb_15 : decode cX2_addKerb 15 = .ok (.invokevirtual 63, 3) := by decide +kernel
theorem dX2_addKerb_18 : decode cX2_addKerb 18 = .ok (.istore_n 3, 1) := by decide +kernel
theorem dX2_addKerb_19 : decode cX2_addKerb 19 = .ok (.iload_n 3, 1) := by decide +kernel
theorem dX2_addKerb_20 : decode cX2_addKerb 20 = .ok (.iconst (-1), 1) := by decide +kernel
theorem dX2_addKerb_21 : decode cX2_addKerb 21 = .ok (.if_icmp .eq 18, 3) := by decide +kernel
theorem dX2_addKerb_24 : decode cX2_addKerb 24 = .ok (.aload_n 0, 1) := by decide +kernel
theorem dX2_addKerb_25 : decode cX2_addKerb 25 = .ok (.getfield 15, 3) := by decide +kernel
theorem dX2_addKerb_28 : decode cX2_addKerb 28 = .ok (.iload_n 3, 1) := by decide +kernel
theorem dX2_addKerb_29 : decode cX2_addKerb 29 = .ok (.dup2, 1) := by decide +kernel
theorem dX2_addKerb_30 : decode cX2_addKerb 30 = .ok (.iaload, 1) := by decide +kernel
theorem dX2_addKerb_31 : decode cX2_addKerb 31 = .ok (.iconst 1, 1) := by decide +kernel
theorem dX2_addKerb_32 : decode cX2_addKerb 32 = .ok (.iload_n 2, 1) := by decide +kernel
theorem dX2_addKerb_33 : decode cX2_addKerb 33 = .ok (.invokestatic 66, 3) := by decide +kernel
theorem dX2_addKerb_36 : decode cX2_addKerb 36 = .ok (.ishl, 1) := by decide +kernel
theorem dX2_addKerb_37 : decode cX2_addKerb 37 = .ok (.ior, 1) := by decide +kernel
theorem dX2_addKerb_38 : decode cX2_addKerb 38 = .ok (.iastore, 1) := by decide +kernel
theorem dX2_addKerb_39 : decode cX2_addKerb 39 = .ok (.return_, 1) := by decide +kernel
theorem dX2_addKind_0 : decode cX2_addKind 0 = .ok (.aload_n 0, 1) := by decide +kernel
theorem dX2_addKind_1 : decode cX2_addKind 1 = .ok (.getfield 46, 3) := by decide +kernel
theorem dX2_addKind_4 : decode cX2_addKind 4 = .ok (.iconst 5, 1) := by decide +kernel
theorem dX2_addKind_5 : decode cX2_addKind 5 = .ok (.if_icmp .ge 43, 3) := by decide +kernel
theorem dX2_addKind_8 : decode cX2_addKind 8 = .ok (.aload_n 0, 1) := by decide +kernel
theorem dX2_addKind_9 : decode cX2_addKind 9 = .ok (.getfield 24, 3) := by decide +kernel
theorem dX2_addKind_12 : decode cX2_addKind 12 = .ok (.aload_n 0, 1) := by decide +kernel
theorem dX2_addKind_13 : decode cX2_addKind 13 = .ok (.getfield 46, 3) := by decide +kernel
theorem dX2_addKind_16 : decode cX2_addKind 16 = .ok (.iload_n 1, 1) := by decide +kernel
theorem dX2_addKind_17 : decode cX2_addKind 17 = .ok (.iastore, 1) := by decide +kernel
theorem dX2_addKind_18 : decode cX2_addKind 18 = .ok (.aload_n 0, 1) := by decide +kernel
theorem dX2_addKind_19 : decode cX2_addKind 19 = .ok (.getfield 27, 3) := by decide +kernel
theorem dX2_addKind_22 : decode cX2_addKind 22 = .ok (.aload_n 0, 1) := by decide +kernel
theorem dX2_addKind_23 : decode cX2_addKind 23 = .ok (.getfield 46, 3) := by decide +kernel
theorem dX2_addKind_26 : decode cX2_addKind 26 = .ok (.iload_n 2, 1) := by decide +kernel
theorem dX2_addKind_27 : decode cX2_addKind 27 = .ok (.iastore, 1) := by decide +kernel
theorem dX2_addKind_28 : decode cX2_addKind 28 = .ok (.aload_n 0, 1) := by decide +kernel
theorem dX2_addKind_29 : decode cX2_addKind 29 = .ok (.getfield 30, 3) := by decide +kernel
theorem dX2_addKind_32 : decode cX2_addKind 32 = .ok (.aload_n 0, 1) := by decide +kernel
theorem dX2_addKind_33 : decode cX2_addKind 33 = .ok (.getfield 46, 3) := by decide +kernel
theorem dX2_addKind_36 : decode cX2_addKind 36 = .ok (.iload_n 3, 1) := by decide +kernel
theorem dX2_addKind_37 : decode cX2_addKind 37 = .ok (.iastore, 1) := by decide +kernel
theorem dX2_addKind_38 : decode cX2_addKind 38 = .ok (.aload_n 0, 1) := by decide +kernel
theorem dX2_addKind_39 : decode cX2_addKind 39 = .ok (.dup, 1) := by decide +kernel
theorem dX2_addKind_40 : decode cX2_addKind 40 = .ok (.getfield 46, 3) := by decide +kernel
theorem dX2_addKind_43 : decode cX2_addKind 43 = .ok (.iconst 1, 1) := by decide +kernel
theorem dX2_addKind_44 : decode cX2_addKind 44 = .ok (.iadd, 1) := by decide +kernel
theorem dX2_addKind_45 : decode cX2_addKind 45 = .ok (.putfield 46, 3) := by decide +kernel
theorem dX2_addKind_48 : decode cX2_addKind 48 = .ok (.return_, 1) := by decide +kernel
theorem dX2_cellAt_0 : decode cX2_cellAt 0 = .ok (.iload_n 1, 1) := by decide +kernel
theorem dX2_cellAt_1 : decode cX2_cellAt 1 = .ok (.ifCond .lt 34, 3) := by decide +kernel
theorem dX2_cellAt_4 : decode cX2_cellAt 4 = .ok (.iload_n 1, 1) := by decide +kernel
theorem dX2_cellAt_5 : decode cX2_cellAt 5 = .ok (.aload_n 0, 1) := by decide +kernel
theorem dX2_cellAt_6 : decode cX2_cellAt 6 = .ok (.getfield 33, 3) := by decide +kernel
theorem dX2_cellAt_9 : decode cX2_cellAt 9 = .ok (.if_icmp .ge 26, 3) := by decide +kernel
theorem dX2_cellAt_12 : decode cX2_cellAt 12 = .ok (.iload_n 2, 1) := by decide +kernel
theorem dX2_cellAt_13 : decode cX2_cellAt 13 = .ok (.ifCond .lt 22, 3) := by decide +kernel
theorem dX2_cellAt_16 : decode cX2_cellAt 16 = .ok (.iload_n 2, 1) := by decide +kernel
theorem dX2_cellAt_17 : decode cX2_cellAt 17 = .ok (.aload_n 0, 1) := by decide +kernel
theorem dX2_cellAt_18 : decode cX2_cellAt 18 = .ok (.getfield 37, 3) := by decide +kernel
theorem dX2_cellAt_21 : decode cX2_cellAt 21 = .ok (.if_icmp .ge 14, 3) := by decide +kernel
theorem dX2_cellAt_24 : decode cX2_cellAt 24 = .ok (.aload_n 0, 1) := by decide +kernel
theorem dX2_cellAt_25 : decode cX2_cellAt 25 = .ok (.getfield 33, 3) := by decide +kernel
theorem dX2_cellAt_28 : decode cX2_cellAt 28 = .ok (.iload_n 2, 1) := by decide +kernel
theorem dX2_cellAt_29 : decode cX2_cellAt 29 = .ok (.imul, 1) := by decide +kernel
theorem dX2_cellAt_30 : decode cX2_cellAt 30 = .ok (.iload_n 1, 1) := by decide +kernel
theorem dX2_cellAt_31 : decode cX2_cellAt 31 = .ok (.iadd, 1) := by decide +kernel
theorem dX2_cellAt_32 : decode cX2_cellAt 32 = .ok (.goto 4, 3) := by decide +kernel
theorem dX2_cellAt_35 : decode cX2_cellAt 35 = .ok (.iconst (-1), 1) := by decide +kernel
theorem dX2_cellAt_36 : decode cX2_cellAt 36 = .ok (.ireturn, 1) := by decide +kernel
set_option maxRecDepth 20000 in
theorem ggX2_cellOfPair_X2_cellAt : GoodIn wsX2_cellOfPair wsX2_cellAt := goodIn_r _ [5, 6, 7, 8, 9, 10, 11, 12, 13, 14, 15, 16, 17, 18, 19] (by decide +kernel) (by decide +kernel)
set_option maxRecDepth 20000 in
theorem gX2_cellOfPair_X2_cellAt : GoodIn wsX2_cellOfPair (wsV RX2 55 RX2 yX2_cellAt wsX2_cellAt) := goodIn_app (goodIn_of _ (by decide +kernel)) ggX2_cellOfPair_X2_cellAt
theorem dX2_cellOfPair_0 : decode cX2_cellOfPair 0 = .ok (.iload_n 1, 1) := by decide +kernel
theorem dX2_cellOfPair_1 : decode cX2_cellOfPair 1 = .ok (.ifCond .ge 7, 3) := by decide +kernel
theorem dX2_cellOfPair_4 : decode cX2_cellOfPair 4 = .ok (.iconst (-1), 1) := by decide +kernel
theorem dX2_cellOfPair_5 : decode cX2_cellOfPair 5 = .ok (.goto 15, 3) := by decide +kernel
theorem dX2_cellOfPair_8 : decode cX2_cellOfPair 8 = .ok (.aload_n 0, 1) := by decide +kernel
theorem dX2_cellOfPair_9 : decode cX2_cellOfPair 9 = .ok (.iload_n 1, 1) := by decide +kernel
theorem dX2_cellOfPair_10 : decode cX2_cellOfPair 10 = .ok (.bipush 10, 2) := by decide +kernel
theorem dX2_cellOfPair_12 : decode cX2_cellOfPair 12 = .ok (.idiv, 1) := by decide +kernel
theorem dX2_cellOfPair_13 : decode cX2_cellOfPair 13 = .ok (.iload_n 1, 1) := by decide +kernel
theorem dX2_cellOfPair_14 : decode cX2_cellOfPair 14 = .ok (.bipush 10, 2) := by decide +kernel
theorem dX2_cellOfPair_16 : decode cX2_cellOfPair 16 = .ok (.irem, 1) := by decide +kernel
theorem dX2_cellOfPair_17 : decode cX2_cellOfPair 17 = .ok (.invokevirtual 55, 3) := by decide +kernel
theorem dX2_cellOfPair_20 : decode cX2_cellOfPair 20 = .ok (.ireturn, 1) := by decide +kernel
theorem dX2_pairOf_0 : decode cX2_pairOf 0 = .ok (.aload_n 0, 1) := by decide +kernel
theorem dX2_pairOf_1 : decode cX2_pairOf 1 = .ok (.getfield 33, 3) := by decide +kernel
theorem dX2_pairOf_4 : decode cX2_pairOf 4 = .ok (.iconst 1, 1) := by decide +kernel
theorem dX2_pairOf_5 : decode cX2_pairOf 5 = .ok (.if_icmp .ge 8, 3) := by decide +kernel
theorem dX2_pairOf_8 : decode cX2_pairOf 8 = .ok (.bipush (-9), 2) := by decide +kernel
theorem dX2_pairOf_10 : decode cX2_pairOf 10 = .ok (.goto 19, 3) := by decide +kernel
theorem dX2_pairOf_13 : decode cX2_pairOf 13 = .ok (.bipush 10, 2) := by decide +kernel
theorem dX2_pairOf_15 : decode cX2_pairOf 15 = .ok (.iload_n 1, 1) := by decide +kernel
theorem dX2_pairOf_16 : decode cX2_pairOf 16 = .ok (.aload_n 0, 1) := by decide +kernel
theorem dX2_pairOf_17 : decode cX2_pairOf 17 = .ok (.getfield 33, 3) := by decide +kernel
theorem dX2_pairOf_20 : decode cX2_pairOf 20 = .ok (.irem, 1) := by decide +kernel
theorem dX2_pairOf_21 : decode cX2_pairOf 21 = .ok (.imul, 1) := by decide +kernel
theorem dX2_pairOf_22 : decode cX2_pairOf 22 = .ok (.iload_n 1, 1) := by decide +kernel
theorem dX2_pairOf_23 : decode cX2_pairOf 23 = .ok (.aload_n 0, 1) := by decide +kernel
theorem dX2_pairOf_24 : decode cX2_pairOf 24 = .ok (.getfield 33, 3) := by decide +kernel
theorem dX2_pairOf_27 : decode cX2_pairOf 27 = .ok (.idiv, 1) := by decide +kernel
theorem dX2_pairOf_28 : decode cX2_pairOf 28 = .ok (.iadd, 1) := by decide +kernel
theorem dX2_pairOf_29 : decode cX2_pairOf 29 = .ok (.ireturn, 1) := by decide +kernel
theorem dX2_besideOf_0 : decode cX2_besideOf 0 = .ok (.aload_n 0, 1) := by decide +kernel
theorem dX2_besideOf_1 : decode cX2_besideOf 1 = .ok (.getfield 21, 3) := by decide +kernel
theorem dX2_besideOf_4 : decode cX2_besideOf 4 = .ok (.iconst 4, 1) := by decide +kernel
theorem dX2_besideOf_5 : decode cX2_besideOf 5 = .ok (.iload_n 1, 1) := by decide +kernel
theorem dX2_besideOf_6 : decode cX2_besideOf 6 = .ok (.imul, 1) := by decide +kernel
theorem dX2_besideOf_7 : decode cX2_besideOf 7 = .ok (.iload_n 2, 1) := by decide +kernel
theorem dX2_besideOf_8 : decode cX2_besideOf 8 = .ok (.iadd, 1) := by decide +kernel
theorem dX2_besideOf_9 : decode cX2_besideOf 9 = .ok (.iaload, 1) := by decide +kernel
theorem dX2_besideOf_10 : decode cX2_besideOf 10 = .ok (.ireturn, 1) := by decide +kernel
theorem dX2_facing_0 : decode cX2_facing 0 = .ok (.iload_n 0, 1) := by decide +kernel
theorem dX2_facing_1 : decode cX2_facing 1 = .ok (.iconst 2, 1) := by decide +kernel
theorem dX2_facing_2 : decode cX2_facing 2 = .ok (.iadd, 1) := by decide +kernel
theorem dX2_facing_3 : decode cX2_facing 3 = .ok (.iconst 4, 1) := by decide +kernel
theorem dX2_facing_4 : decode cX2_facing 4 = .ok (.irem, 1) := by decide +kernel
theorem dX2_facing_5 : decode cX2_facing 5 = .ok (.ireturn, 1) := by decide +kernel
theorem dX3_init_0 : decode cX3_init 0 = .ok (.aload_n 0, 1) := by decide +kernel
theorem dX3_init_1 : decode cX3_init 1 = .ok (.invokespecial 3, 3) := by decide +kernel
theorem dX3_init_4 : decode cX3_init 4 = .ok (.aload_n 0, 1) := by decide +kernel
theorem dX3_init_5 : decode cX3_init 5 = .ok (.bipush 30, 2) := by decide +kernel
theorem dX3_init_7 : decode cX3_init 7 = .ok (.newarray .int, 2) := by decide +kernel
theorem dX3_init_9 : decode cX3_init 9 = .ok (.putfield 9, 3) := by decide +kernel
theorem dX3_init_12 : decode cX3_init 12 = .ok (.aload_n 0, 1) := by decide +kernel
theorem dX3_init_13 : decode cX3_init 13 = .ok (.bipush 30, 2) := by decide +kernel
theorem dX3_init_15 : decode cX3_init 15 = .ok (.newarray .int, 2) := by decide +kernel
theorem dX3_init_17 : decode cX3_init 17 = .ok (.putfield 15, 3) := by decide +kernel
theorem dX3_init_20 : decode cX3_init 20 = .ok (.aload_n 0, 1) := by decide +kernel
theorem dX3_init_21 : decode cX3_init 21 = .ok (.bipush 30, 2) := by decide +kernel
theorem dX3_init_23 : decode cX3_init 23 = .ok (.newarray .int, 2) := by decide +kernel
theorem dX3_init_25 : decode cX3_init 25 = .ok (.putfield 18, 3) := by decide +kernel
theorem dX3_init_28 : decode cX3_init 28 = .ok (.aload_n 0, 1) := by decide +kernel
theorem dX3_init_29 : decode cX3_init 29 = .ok (.bipush 30, 2) := by decide +kernel
theorem dX3_init_31 : decode cX3_init 31 = .ok (.newarray .int, 2) := by decide +kernel
theorem dX3_init_33 : decode cX3_init 33 = .ok (.putfield 21, 3) := by decide +kernel
theorem dX3_init_36 : decode cX3_init 36 = .ok (.aload_n 0, 1) := by decide +kernel
theorem dX3_init_37 : decode cX3_init 37 = .ok (.bipush 30, 2) := by decide +kernel
theorem dX3_init_39 : decode cX3_init 39 = .ok (.newarray .int, 2) := by decide +kernel
theorem dX3_init_41 : decode cX3_init 41 = .ok (.putfield 24, 3) := by decide +kernel
theorem dX3_init_44 : decode cX3_init 44 = .ok (.aload_n 0, 1) := by decide +kernel
theorem dX3_init_45 : decode cX3_init 45 = .ok (.bipush 30, 2) := by decide +kernel
theorem dX3_init_47 : decode cX3_init 47 = .ok (.newarray .int, 2) := by decide +kernel
theorem dX3_init_49 : decode cX3_init 49 = .ok (.putfield 27, 3) := by decide +kernel
theorem dX3_init_52 : decode cX3_init 52 = .ok (.aload_n 0, 1) := by decide +kernel
theorem dX3_init_53 : decode cX3_init 53 = .ok (.bipush 10, 2) := by decide +kernel
theorem dX3_init_55 : decode cX3_init 55 = .ok (.newarray .int, 2) := by decide +kernel
theorem dX3_init_57 : decode cX3_init 57 = .ok (.putfield 30, 3) := by decide +kernel
theorem dX3_init_60 : decode cX3_init 60 = .ok (.aload_n 0, 1) := by decide +kernel
theorem dX3_init_61 : decode cX3_init 61 = .ok (.bipush 10, 2) := by decide +kernel
theorem dX3_init_63 : decode cX3_init 63 = .ok (.newarray .int, 2) := by decide +kernel
theorem dX3_init_65 : decode cX3_init 65 = .ok (.putfield 33, 3) := by decide +kernel
theorem dX3_init_68 : decode cX3_init 68 = .ok (.aload_n 0, 1) := by decide +kernel
theorem dX3_init_69 : decode cX3_init 69 = .ok (.bipush 10, 2) := by decide +kernel
theorem dX3_init_71 : decode cX3_init 71 = .ok (.newarray .int, 2) := by decide +kernel
theorem dX3_init_73 : decode cX3_init 73 = .ok (.putfield 36, 3) := by decide +kernel
theorem dX3_init_76 : decode cX3_init 76 = .ok (.aload_n 0, 1) := by decide +kernel
theorem dX3_init_77 : decode cX3_init 77 = .ok (.bipush 10, 2) := by decide +kernel
theorem dX3_init_79 : decode cX3_init 79 = .ok (.newarray .int, 2) := by decide +kernel
theorem dX3_init_81 : decode cX3_init 81 = .ok (.putfield 39, 3) := by decide +kernel
theorem dX3_init_84 : decode cX3_init 84 = .ok (.return_, 1) := by decide +kernel
set_option maxRecDepth 20000 in
theorem ggX3_layOut_X3_copyRow : GoodIn wsX3_layOut wsX3_copyRow := goodIn_r _ [13, 14, 15, 16, 17, 18, 19, 20, 21] (by decide +kernel) (by decide +kernel)
set_option maxRecDepth 20000 in
theorem gX3_layOut_X3_copyRow : GoodIn wsX3_layOut (va_wsS RX3 52 yX3_copyRow wsX3_copyRow) := goodIn_app (goodIn_of _ (by decide +kernel)) ggX3_layOut_X3_copyRow
set_option maxRecDepth 20000 in
theorem ggX3_layOut_J7_fill_53178 : GoodIn wsX3_layOut wsJ7_fill_53178 := goodIn_r _ [25] (by decide +kernel) (by decide +kernel)
set_option maxRecDepth 20000 in
theorem gX3_layOut_J7_fill_53178 : GoodIn wsX3_layOut (va_wsS RX3 56 yJ7_fill_53178 wsJ7_fill_53178) := goodIn_app (goodIn_of _ (by decide +kernel)) ggX3_layOut_J7_fill_53178
theorem dX3_layOut_0 : decode cX3_layOut 0 = .ok (.aload_n 0, 1) := by decide +kernel
theorem dX3_layOut_1 : decode cX3_layOut 1 = .ok (.iconst 0, 1) := by decide +kernel
theorem dX3_layOut_2 : decode cX3_layOut 2 = .ok (.putfield 42, 3) := by decide +kernel
theorem dX3_layOut_5 : decode cX3_layOut 5 = .ok (.aload_n 0, 1) := by decide +kernel
theorem dX3_layOut_6 : decode cX3_layOut 6 = .ok (.iconst 0, 1) := by decide +kernel
theorem dX3_layOut_7 : decode cX3_layOut 7 = .ok (.putfield 46, 3) := by decide +kernel
theorem dX3_layOut_10 : decode cX3_layOut 10 = .ok (.aload_n 1, 1) := by decide +kernel
theorem dX3_layOut_11 : decode cX3_layOut 11 = .ok (.getfield 49, 3) := by decide +kernel
theorem dX3_layOut_14 : decode cX3_layOut 14 = .ok (.aload_n 0, 1) := by decide +kernel
theorem dX3_layOut_15 : decode cX3_layOut 15 = .ok (.getfield 9, 3) := by decide +kernel
theorem dX3_layOut_18 : decode cX3_layOut 18 = .ok (.invokestatic 52, 3) := by decide +kernel
theorem dX3_layOut_21 : decode cX3_layOut 21 = .ok (.aload_n 0, 1) := by decide +kernel
theorem dX3_layOut_22 : decode cX3_layOut 22 = .ok (.getfield 15, 3) := by decide +kernel
theorem dX3_layOut_25 : decode cX3_layOut 25 = .ok (.iconst 0, 1) := by decide +kernel
theorem dX3_layOut_26 : decode cX3_layOut 26 = .ok (.invokestatic 56, 3) := by decide +kernel
theorem dX3_layOut_29 : decode cX3_layOut 29 = .ok (.aload_n 0, 1) := by decide +kernel
theorem dX3_layOut_30 : decode cX3_layOut 30 = .ok (.getfield 18, 3) := by decide +kernel
theorem dX3_layOut_33 : decode cX3_layOut 33 = .ok (.iconst 0, 1) := by decide +kernel
theorem dX3_layOut_34 : decode cX3_layOut 34 = .ok (.invokestatic 56, 3) := by decide +kernel
theorem dX3_layOut_37 : decode cX3_layOut 37 = .ok (.aload_n 0, 1) := by decide +kernel
theorem dX3_layOut_38 : decode cX3_layOut 38 = .ok (.getfield 21, 3) := by decide +kernel
theorem dX3_layOut_41 : decode cX3_layOut 41 = .ok (.iconst 0, 1) := by decide +kernel
theorem dX3_layOut_42 : decode cX3_layOut 42 = .ok (.invokestatic 56, 3) := by decide +kernel
theorem dX3_layOut_45 : decode cX3_layOut 45 = .ok (.aload_n 0, 1) := by decide +kernel
theorem dX3_layOut_46 : decode cX3_layOut 46 = .ok (.getfield 24, 3) := by decide +kernel
theorem dX3_layOut_49 : decode cX3_layOut 49 = .ok (.iconst 0, 1) := by decide +kernel
theorem dX3_layOut_50 : decode cX3_layOut 50 = .ok (.invokestatic 56, 3) := by decide +kernel
theorem dX3_layOut_53 : decode cX3_layOut 53 = .ok (.aload_n 0, 1) := by decide +kernel
theorem dX3_layOut_54 : decode cX3_layOut 54 = .ok (.getfield 27, 3) := by decide +kernel
theorem dX3_layOut_57 : decode cX3_layOut 57 = .ok (.iconst 0, 1) := by decide +kernel
theorem dX3_layOut_58 : decode cX3_layOut 58 = .ok (.invokestatic 56, 3) := by decide +kernel
theorem dX3_layOut_61 : decode cX3_layOut 61 = .ok (.return_, 1) := by decide +kernel
set_option maxRecDepth 20000 in
theorem ggX3_copyOf_X3_copyRow : GoodIn wsX3_copyOf wsX3_copyRow := goodIn_r _ [16, 17, 18, 19, 20, 21, 22, 23, 24] (by decide +kernel) (by decide +kernel)
set_option maxRecDepth 20000 in
theorem gX3_copyOf_X3_copyRow : GoodIn wsX3_copyOf (va_wsS RX3 52 yX3_copyRow wsX3_copyRow) := goodIn_app (goodIn_of _ (by decide +kernel)) ggX3_copyOf_X3_copyRow
theorem dX3_copyOf_0 : decode cX3_copyOf 0 = .ok (.aload_n 0, 1) := by decide +kernel
theorem dX3_copyOf_1 : decode cX3_copyOf 1 = .ok (.aload_n 1, 1) := by decide +kernel
theorem dX3_copyOf_2 : decode cX3_copyOf 2 = .ok (.getfield 42, 3) := by decide +kernel
theorem dX3_copyOf_5 : decode cX3_copyOf 5 = .ok (.putfield 42, 3) := by decide +kernel
theorem dX3_copyOf_8 : decode cX3_copyOf 8 = .ok (.aload_n 0, 1) := by decide +kernel
theorem dX3_copyOf_9 : decode cX3_copyOf 9 = .ok (.aload_n 1, 1) := by decide +kernel
theorem dX3_copyOf_10 : decode cX3_copyOf 10 = .ok (.getfield 46, 3) := by decide +kernel
theorem dX3_copyOf_13 : decode cX3_copyOf 13 = .ok (.putfield 46, 3) := by decide +kernel
theorem dX3_copyOf_16 : decode cX3_copyOf 16 = .ok (.aload_n 1, 1) := by decide +kernel
theorem dX3_copyOf_17 : decode cX3_copyOf 17 = .ok (.getfield 9, 3) := by decide +kernel
theorem dX3_copyOf_20 : decode cX3_copyOf 20 = .ok (.aload_n 0, 1) := by decide +kernel
theorem dX3_copyOf_21 : decode cX3_copyOf 21 = .ok (.getfield 9, 3) := by decide +kernel
theorem dX3_copyOf_24 : decode cX3_copyOf 24 = .ok (.invokestatic 52, 3) := by decide +kernel
theorem dX3_copyOf_27 : decode cX3_copyOf 27 = .ok (.aload_n 1, 1) := by decide +kernel
theorem dX3_copyOf_28 : decode cX3_copyOf 28 = .ok (.getfield 15, 3) := by decide +kernel
theorem dX3_copyOf_31 : decode cX3_copyOf 31 = .ok (.aload_n 0, 1) := by decide +kernel
theorem dX3_copyOf_32 : decode cX3_copyOf 32 = .ok (.getfield 15, 3) := by decide +kernel
theorem dX3_copyOf_35 : decode cX3_copyOf 35 = .ok (.invokestatic 52, 3) := by decide +kernel
theorem dX3_copyOf_38 : decode cX3_copyOf 38 = .ok (.aload_n 1, 1) := by decide +kernel
theorem dX3_copyOf_39 : decode cX3_copyOf 39 = .ok (.getfield 18, 3) := by decide +kernel
theorem dX3_copyOf_42 : decode cX3_copyOf 42 = .ok (.aload_n 0, 1) := by decide +kernel
theorem dX3_copyOf_43 : decode cX3_copyOf 43 = .ok (.getfield 18, 3) := by decide +kernel
theorem dX3_copyOf_46 : decode cX3_copyOf 46 = .ok (.invokestatic 52, 3) := by decide +kernel
theorem dX3_copyOf_49 : decode cX3_copyOf 49 = .ok (.aload_n 1, 1) := by decide +kernel
theorem dX3_copyOf_50 : decode cX3_copyOf 50 = .ok (.getfield 21, 3) := by decide +kernel
theorem dX3_copyOf_53 : decode cX3_copyOf 53 = .ok (.aload_n 0, 1) := by decide +kernel
theorem dX3_copyOf_54 : decode cX3_copyOf 54 = .ok (.getfield 21, 3) := by decide +kernel
theorem dX3_copyOf_57 : decode cX3_copyOf 57 = .ok (.invokestatic 52, 3) := by decide +kernel
theorem dX3_copyOf_60 : decode cX3_copyOf 60 = .ok (.aload_n 1, 1) := by decide +kernel
theorem dX3_copyOf_61 : decode cX3_copyOf 61 = .ok (.getfield 24, 3) := by decide +kernel
theorem dX3_copyOf_64 : decode cX3_copyOf 64 = .ok (.aload_n 0, 1) := by decide +kernel
theorem dX3_copyOf_65 : decode cX3_copyOf 65 = .ok (.getfield 24, 3) := by decide +kernel
theorem dX3_copyOf_68 : decode cX3_copyOf 68 = .ok (.invokestatic 52, 3) := by decide +kernel
theorem dX3_copyOf_71 : decode cX3_copyOf 71 = .ok (.aload_n 1, 1) := by decide +kernel
theorem dX3_copyOf_72 : decode cX3_copyOf 72 = .ok (.getfield 27, 3) := by decide +kernel
theorem dX3_copyOf_75 : decode cX3_copyOf 75 = .ok (.aload_n 0, 1) := by decide +kernel
theorem dX3_copyOf_76 : decode cX3_copyOf 76 = .ok (.getfield 27, 3) := by decide +kernel
theorem dX3_copyOf_79 : decode cX3_copyOf 79 = .ok (.invokestatic 52, 3) := by decide +kernel
theorem dX3_copyOf_82 : decode cX3_copyOf 82 = .ok (.aload_n 1, 1) := by decide +kernel
theorem dX3_copyOf_83 : decode cX3_copyOf 83 = .ok (.getfield 30, 3) := by decide +kernel
theorem dX3_copyOf_86 : decode cX3_copyOf 86 = .ok (.aload_n 0, 1) := by decide +kernel
theorem dX3_copyOf_87 : decode cX3_copyOf 87 = .ok (.getfield 30, 3) := by decide +kernel
theorem dX3_copyOf_90 : decode cX3_copyOf 90 = .ok (.invokestatic 52, 3) := by decide +kernel
theorem dX3_copyOf_93 : decode cX3_copyOf 93 = .ok (.aload_n 1, 1) := by decide +kernel
theorem dX3_copyOf_94 : decode cX3_copyOf 94 = .ok (.getfield 33, 3) := by decide +kernel
theorem dX3_copyOf_97 : decode cX3_copyOf 97 = .ok (.aload_n 0, 1) := by decide +kernel
theorem dX3_copyOf_98 : decode cX3_copyOf 98 = .ok (.getfield 33, 3) := by decide +kernel
theorem dX3_copyOf_101 : decode cX3_copyOf 101 = .ok (.invokestatic 52, 3) := by decide +kernel
theorem dX3_copyOf_104 : decode cX3_copyOf 104 = .ok (.aload_n 1, 1) := by decide +kernel
theorem dX3_copyOf_105 : decode cX3_copyOf 105 = .ok (.getfield 36, 3) := by decide +kernel
theorem dX3_copyOf_108 : decode cX3_copyOf 108 = .ok (.aload_n 0, 1) := by decide +kernel
theorem dX3_copyOf_109 : decode cX3_copyOf 109 = .ok (.getfield 36, 3) := by decide +kernel
theorem dX3_copyOf_112 : decode cX3_copyOf 112 = .ok (.invokestatic 52, 3) := by decide +kernel
theorem dX3_copyOf_115 : decode cX3_copyOf 115 = .ok (.aload_n 1, 1) := by decide +kernel
theorem dX3_copyOf_116 : decode cX3_copyOf 116 = .ok (.getfield 39, 3) := by decide +kernel
theorem dX3_copyOf_119 : decode cX3_copyOf 119 = .ok (.aload_n 0, 1) := by decide +kernel
theorem dX3_copyOf_120 : decode cX3_copyOf 120 = .ok (.getfield 39, 3) := by decide +kernel
theorem dX3_copyOf_123 : decode cX3_copyOf 123 = .ok (.invokestatic 52, 3) := by decide +kernel
theorem dX3_copyOf_126 : decode cX3_copyOf 126 = .ok (.return_, 1) := by decide +kernel
set_option maxRecDepth 20000 in
theorem ggX3_letCome_X3_addCoins : GoodIn wsX3_letCome wsX3_addCoins := goodIn_r _ [5, 6, 7, 8, 9, 26, 27, 28, 29, 30, 31, 32, 33, 34, 35, 36, 37] (by decide +kernel) (by decide +kernel)
set_option maxRecDepth 20000 in
theorem gX3_letCome_X3_addCoins : GoodIn wsX3_letCome (wsV RX3 62 RX3 yX3_addCoins wsX3_addCoins) := goodIn_app (goodIn_of _ (by decide +kernel)) ggX3_letCome_X3_addCoins
set_option maxRecDepth 20000 in
theorem ggX3_letCome_X3_note : GoodIn wsX3_letCome wsX3_note := goodIn_r _ [13, 14, 15, 16, 17, 18, 19, 20, 4, 21, 22, 23, 24, 25, 26, 27, 28, 29, 30, 31, 32, 33, 34, 35, 36, 37] (by decide +kernel) (by decide +kernel)
set_option maxRecDepth 20000 in
theorem gX3_letCome_X3_note : GoodIn wsX3_letCome (wsV RX3 66 RX3 yX3_note wsX3_note) := goodIn_app (goodIn_of _ (by decide +kernel)) ggX3_letCome_X3_note
theorem dX3_letCome_0 : decode cX3_letCome 0 = .ok (.aload_n 0, 1) := by decide +kernel
theorem dX3_letCome_1 : decode cX3_letCome 1 = .ok (.iload_n 2, 1) := by decide +kernel
theorem dX3_letCome_2 : decode cX3_letCome 2 = .ok (.ifCond .eq 7, 3) := by decide +kernel
theorem dX3_letCome_5 : decode cX3_letCome 5 = .ok (.iconst 1, 1) := by decide +kernel
theorem dX3_letCome_6 : decode cX3_letCome 6 = .ok (.goto 4, 3) := by decide +kernel
theorem dX3_letCome_9 : decode cX3_letCome 9 = .ok (.iconst 0, 1) := by decide +kernel
theorem dX3_letCome_10 : decode cX3_letCome 10 = .ok (.iload_n 1, 1) := by decide +kernel
theorem dX3_letCome_11 : decode cX3_letCome 11 = .ok (.iconst 1, 1) := by decide +kernel
theorem dX3_letCome_12 : decode cX3_letCome 12 = .ok (.iload_n 3, 1) := by decide +kernel
theorem dX3_letCome_13 : decode cX3_letCome 13 = .ok (.invokevirtual 62, 3) := by decide +kernel
theorem dX3_letCome_16 : decode cX3_letCome 16 = .ok (.aload_n 0, 1) := by decide +kernel
theorem dX3_letCome_17 : decode cX3_letCome 17 = .ok (.iload_n 2, 1) := by decide +kernel
theorem dX3_letCome_18 : decode cX3_letCome 18 = .ok (.ifCond .eq 7, 3) := by decide +kernel
theorem dX3_letCome_21 : decode cX3_letCome 21 = .ok (.iconst 1, 1) := by decide +kernel
theorem dX3_letCome_22 : decode cX3_letCome 22 = .ok (.goto 4, 3) := by decide +kernel
theorem dX3_letCome_25 : decode cX3_letCome 25 = .ok (.iconst 0, 1) := by decide +kernel
theorem dX3_letCome_26 : decode cX3_letCome 26 = .ok (.iload_n 1, 1) := by decide +kernel
theorem dX3_letCome_27 : decode cX3_letCome 27 = .ok (.iconst 1, 1) := by decide +kernel
theorem dX3_letCome_28 : decode cX3_letCome 28 = .ok (.iload_n 3, 1) := by decide +kernel
theorem dX3_letCome_29 : decode cX3_letCome 29 = .ok (.invokevirtual 66, 3) := by decide +kernel
theorem dX3_letCome_32 : decode cX3_letCome 32 = .ok (.return_, 1) := by decide +kernel
set_option maxRecDepth 20000 in
theorem ggX3_changePlank_X3_turnPlank : GoodIn wsX3_changePlank wsX3_turnPlank := goodIn_r _ [6, 7, 1, 8, 9, 10, 11, 12, 13, 14, 15, 16, 33, 34, 35, 36, 37, 38, 39, 40, 41, 42, 43, 44, 45, 46, 47, 48, 49, 50, 51, 52, 53, 54, 55, 56] (by decide +kernel) (by decide +kernel)
set_option maxRecDepth 20000 in
theorem gX3_changePlank_X3_turnPlank : GoodIn wsX3_changePlank (wsV RX3 69 RX3 yX3_turnPlank wsX3_turnPlank) := goodIn_app (goodIn_of _ (by decide +kernel)) ggX3_changePlank_X3_turnPlank
set_option maxRecDepth 20000 in
theorem ggX3_changePlank_X3_note : GoodIn wsX3_changePlank wsX3_note := goodIn_r _ [20, 21, 22, 23, 24, 25, 26, 27, 5, 28, 29, 30, 31, 32, 33, 34, 35, 36, 37, 38, 39, 40, 41, 42, 43, 44] (by decide +kernel) (by decide +kernel)
set_option maxRecDepth 20000 in
theorem gX3_changePlank_X3_note : GoodIn wsX3_changePlank (wsV RX3 66 RX3 yX3_note wsX3_note) := goodIn_app (goodIn_of _ (by decide +kernel)) ggX3_changePlank_X3_note
theorem dX3_changePlank_0 : decode cX3_changePlank 0 = .ok (.aload_n 0, 1) := by decide +kernel
theorem dX3_changePlank_1 : decode cX3_changePlank 1 = .ok (.aload_n 1, 1) := by decide +kernel
theorem dX3_changePlank_2 : decode cX3_changePlank 2 = .ok (.iload_n 2, 1) := by decide +kernel
theorem dX3_changePlank_3 : decode cX3_changePlank 3 = .ok (.iload_n 3, 1) := by decide +kernel
theorem dX3_changePlank_4 : decode cX3_changePlank 4 = .ok (.invokevirtual 69, 3) := by decide +kernel
theorem dX3_changePlank_7 : decode cX3_changePlank 7 = .ok (.aload_n 0, 1) := by decide +kernel
theorem dX3_changePlank_8 : decode cX3_changePlank 8 = .ok (.iconst 2, 1) := by decide +kernel
theorem dX3_changePlank_9 : decode cX3_changePlank 9 = .ok (.iload_n 2, 1) := by decide +kernel
theorem dX3_changePlank_10 : decode cX3_changePlank 10 = .ok (.iload_n 3, 1) := by decide +kernel
theorem dX3_changePlank_11 : decode cX3_changePlank 11 = .ok (.iconst 0, 1) := by decide +kernel
theorem dX3_changePlank_12 : decode cX3_changePlank 12 = .ok (.invokevirtual 66, 3) := by decide +kernel
theorem dX3_changePlank_15 : decode cX3_changePlank 15 = .ok (.aload_n 0, 1) := by decide +kernel
theorem dX3_changePlank_16 : decode cX3_changePlank 16 = .ok (.getfield 42, 3) := by decide +kernel
theorem dX3_changePlank_19 : decode cX3_changePlank 19 = .ok (.ireturn, 1) := by decide +kernel
set_option maxRecDepth 20000 in
theorem ggX3_moveCobble_X3_note : GoodIn wsX3_moveCobble wsX3_note := goodIn_r _ [6, 7, 8, 9, 10, 11, 12, 13, 5, 14, 15, 16, 17, 18, 19, 20, 21, 22, 23, 24, 25, 26, 27, 28, 29, 30] (by decide +kernel) (by decide +kernel)
set_option maxRecDepth 20000 in
theorem gX3_moveCobble_X3_note : GoodIn wsX3_moveCobble (wsV RX3 66 RX3 yX3_note wsX3_note) := goodIn_app (goodIn_of _ (by decide +kernel)) ggX3_moveCobble_X3_note
theorem dX3_moveCobble_0 : decode cX3_moveCobble 0 = .ok (.aload_n 0, 1) := by decide +kernel
theorem dX3_moveCobble_1 : decode cX3_moveCobble 1 = .ok (.getfield 9, 3) := by decide +kernel
theorem dX3_moveCobble_4 : decode cX3_moveCobble 4 = .ok (.iload_n 1, 1) := by decide +kernel
theorem dX3_moveCobble_5 : decode cX3_moveCobble 5 = .ok (.dup2, 1) := by decide +kernel
theorem dX3_moveCobble_6 : decode cX3_moveCobble 6 = .ok (.iaload, 1) := by decide +kernel
theorem dX3_moveCobble_7 : decode cX3_moveCobble 7 = .ok (.iload_n 2, 1) := by decide +kernel
theorem dX3_moveCobble_8 : decode cX3_moveCobble 8 = .ok (.iadd, 1) := by decide +kernel
theorem dX3_moveCobble_9 : decode cX3_moveCobble 9 = .ok (.iastore, 1) := by decide +kernel
theorem dX3_moveCobble_10 : decode cX3_moveCobble 10 = .ok (.aload_n 0, 1) := by decide +kernel
theorem dX3_moveCobble_11 : decode cX3_moveCobble 11 = .ok (.iconst 3, 1) := by decide +kernel
theorem dX3_moveCobble_12 : decode cX3_moveCobble 12 = .ok (.iload_n 1, 1) := by decide +kernel
theorem dX3_moveCobble_13 : decode cX3_moveCobble 13 = .ok (.iload_n 2, 1) := by decide +kernel
theorem dX3_moveCobble_14 : decode cX3_moveCobble 14 = .ok (.iconst 0, 1) := by decide +kernel
theorem dX3_moveCobble_15 : decode cX3_moveCobble 15 = .ok (.invokevirtual 66, 3) := by decide +kernel
theorem dX3_moveCobble_18 : decode cX3_moveCobble 18 = .ok (.aload_n 0, 1) := by decide +kernel
theorem dX3_moveCobble_19 : decode cX3_moveCobble 19 = .ok (.getfield 9, 3) := by decide +kernel
theorem dX3_moveCobble_22 : decode cX3_moveCobble 22 = .ok (.iload_n 1, 1) := by decide +kernel
theorem dX3_moveCobble_23 : decode cX3_moveCobble 23 = .ok (.iaload, 1) := by decide +kernel
theorem dX3_moveCobble_24 : decode cX3_moveCobble 24 = .ok (.ireturn, 1) := by decide +kernel
set_option maxRecDepth 20000 in
theorem ggX3_sweepAway_X3_note : GoodIn wsX3_sweepAway wsX3_note := goodIn_r _ [7, 8, 9, 10, 11, 12, 13, 14, 6, 15, 16, 17, 18, 19, 26, 27, 28, 29, 30, 31, 32, 33, 34, 35, 36, 37] (by decide +kernel) (by decide +kernel)
set_option maxRecDepth 20000 in
theorem gX3_sweepAway_X3_note : GoodIn wsX3_sweepAway (wsV RX3 66 RX3 yX3_note wsX3_note) := goodIn_app (goodIn_of _ (by decide +kernel)) ggX3_sweepAway_X3_note
set_option maxRecDepth 20000 in
theorem ggX3_sweepAway_X3_addCoins : GoodIn wsX3_sweepAway wsX3_addCoins := goodIn_r _ [23, 24, 25, 2, 1, 26, 27, 28, 29, 30, 31, 32, 33, 34, 35, 36, 37] (by decide +kernel) (by decide +kernel)
set_option maxRecDepth 20000 in
theorem gX3_sweepAway_X3_addCoins : GoodIn wsX3_sweepAway (wsV RX3 62 RX3 yX3_addCoins wsX3_addCoins) := goodIn_app (goodIn_of _ (by decide +kernel)) ggX3_sweepAway_X3_addCoins
theorem dX3_sweepAway_0 : decode cX3_sweepAway 0 = .ok (.aload_n 0, 1) := by decide +kernel
theorem dX3_sweepAway_1 : decode cX3_sweepAway 1 = .ok (.getfield 21, 3) := by decide +kernel
theorem dX3_sweepAway_4 : decode cX3_sweepAway 4 = .ok (.iload_n 1, 1) := by decide +kernel
theorem dX3_sweepAway_5 : decode cX3_sweepAway 5 = .ok (.iaload, 1) := by decide +kernel
theorem dX3_sweepAway_6 : decode cX3_sweepAway 6 = .ok (.istore_n 2, 1) := by decide +kernel
theorem dX3_sweepAway_7 : decode cX3_sweepAway 7 = .ok (.aload_n 0, 1) := by decide +kernel
theorem dX3_sweepAway_8 : decode cX3_sweepAway 8 = .ok (.iconst 4, 1) := by decide +kernel
theorem dX3_sweepAway_9 : decode cX3_sweepAway 9 = .ok (.iload_n 1, 1) := by decide +kernel
theorem dX3_sweepAway_10 : decode cX3_sweepAway 10 = .ok (.aload_n 0, 1) := by decide +kernel
theorem dX3_sweepAway_11 : decode cX3_sweepAway 11 = .ok (.getfield 18, 3) := by decide +kernel
theorem dX3_sweepAway_14 : decode cX3_sweepAway 14 = .ok (.iload_n 1, 1) := by decide +kernel
theorem dX3_sweepAway_15 : decode cX3_sweepAway 15 = .ok (.iaload, 1) := by decide +kernel
theorem dX3_sweepAway_16 : decode cX3_sweepAway 16 = .ok (.iload_n 2, 1) := by decide +kernel
theorem dX3_sweepAway_17 : decode cX3_sweepAway 17 = .ok (.invokevirtual 66, 3) := by decide +kernel
theorem dX3_sweepAway_20 : decode cX3_sweepAway 20 = .ok (.aload_n 0, 1) := by decide +kernel
theorem dX3_sweepAway_21 : decode cX3_sweepAway 21 = .ok (.iconst 0, 1) := by decide +kernel
theorem dX3_sweepAway_22 : decode cX3_sweepAway 22 = .ok (.iload_n 1, 1) := by decide +kernel
theorem dX3_sweepAway_23 : decode cX3_sweepAway 23 = .ok (.aload_n 0, 1) := by decide +kernel
theorem dX3_sweepAway_24 : decode cX3_sweepAway 24 = .ok (.getfield 18, 3) := by decide +kernel
theorem dX3_sweepAway_27 : decode cX3_sweepAway 27 = .ok (.iload_n 1, 1) := by decide +kernel
theorem dX3_sweepAway_28 : decode cX3_sweepAway 28 = .ok (.iaload, 1) := by decide +kernel
theorem dX3_sweepAway_29 : decode cX3_sweepAway 29 = .ok (.ineg, 1) := by decide +kernel
theorem dX3_sweepAway_30 : decode cX3_sweepAway 30 = .ok (.iload_n 2, 1) := by decide +kernel
theorem dX3_sweepAway_31 : decode cX3_sweepAway 31 = .ok (.ineg, 1) := by decide +kernel
theorem dX3_sweepAway_32 : decode cX3_sweepAway 32 = .ok (.invokevirtual 62, 3) := by decide +kernel
theorem dX3_sweepAway_35 : decode cX3_sweepAway 35 = .ok (.iload_n 2, 1) := by decide +kernel
theorem dX3_sweepAway_36 : decode cX3_sweepAway 36 = .ok (.ireturn, 1) := by decide +kernel
set_option maxRecDepth 20000 in
theorem ggX3_takeBack_X3_turnPlank : GoodIn wsX3_takeBack wsX3_turnPlank := goodIn_r _ [11, 12, 13, 14, 15, 16, 17, 18, 19, 20, 21, 22, 31, 32, 33, 34, 35, 36, 37, 38, 39, 40, 41, 42, 43, 44, 45, 46, 47, 48, 49, 50, 51, 52, 53, 54] (by decide +kernel) (by decide +kernel)
set_option maxRecDepth 20000 in
theorem gX3_takeBack_X3_turnPlank : GoodIn wsX3_takeBack (wsV RX3 69 RX3 yX3_turnPlank wsX3_turnPlank) := goodIn_app (goodIn_of _ (by decide +kernel)) ggX3_takeBack_X3_turnPlank
set_option maxRecDepth 20000 in
theorem ggX3_takeBack_X3_addCoins : GoodIn wsX3_takeBack wsX3_addCoins := goodIn_r _ [26, 27, 28, 29, 30, 31, 32, 33, 34, 35, 36, 37, 38, 39, 40, 41, 42] (by decide +kernel) (by decide +kernel)
set_option maxRecDepth 20000 in
theorem gX3_takeBack_X3_addCoins : GoodIn wsX3_takeBack (wsV RX3 62 RX3 yX3_addCoins wsX3_addCoins) := goodIn_app (goodIn_of _ (by decide +kernel)) ggX3_takeBack_X3_addCoins
theorem dX3_takeBack_0 : decode cX3_takeBack 0 = .ok (.aload_n 0, 1) := by decide +kernel
theorem dX3_takeBack_1 : decode cX3_takeBack 1 = .ok (.getfield 46, 3) := by decide +kernel
theorem dX3_takeBack_4 : decode cX3_takeBack 4 = .ok (.iconst 1, 1) := by decide +kernel
theorem dX3_takeBack_5 : decode cX3_takeBack 5 = .ok (.if_icmp .ge 6, 3) := by decide +kernel
theorem dX3_takeBack_8 : decode cX3_takeBack 8 = .ok (.bipush (-2), 2) := by decide +kernel
theorem dX3_takeBack_10 : decode cX3_takeBack 10 = .ok (.ireturn, 1) := by decide +kernel
theorem dX3_takeBack_11 : decode cX3_takeBack 11 = .ok (.aload_n 0, 1) := by decide +kernel
theorem dX3_takeBack_12 : decode cX3_takeBack 12 = .ok (.dup, 1) := by decide +kernel
theorem dX3_takeBack_13 : decode cX3_takeBack 13 = .ok (.getfield 46, 3) := by decide +kernel
theorem dX3_takeBack_16 : decode cX3_takeBack 16 = .ok (.iconst 1, 1) := by decide +kernel
theorem dX3_takeBack_17 : decode cX3_takeBack 17 = .ok (.isub, 1) := by decide +kernel
theorem dX3_takeBack_18 : decode cX3_takeBack 18 = .ok (.putfield 46, 3) := by decide +kernel
theorem dX3_takeBack_21 : decode cX3_takeBack 21 = .ok (.aload_n 0, 1) := by decide +kernel
theorem dX3_takeBack_22 : decode cX3_takeBack 22 = .ok (.getfield 33, 3) := by decide +kernel
theorem dX3_takeBack_25 : decode cX3_takeBack 25 = .ok (.aload_n 0, 1) := by decide +kernel
theorem dX3_takeBack_26 : decode cX3_takeBack 26 = .ok (.getfield 46, 3) := by decide +kernel
theorem dX3_takeBack_29 : decode cX3_takeBack 29 = .ok (.iaload, 1) := by decide +kernel
theorem dX3_takeBack_30 : decode cX3_takeBack 30 = .ok (.istore_n 2, 1) := by decide +kernel
theorem dX3_takeBack_31 : decode cX3_takeBack 31 = .ok (.aload_n 0, 1) := by decide +kernel
theorem dX3_takeBack_32 : decode cX3_takeBack 32 = .ok (.getfield 36, 3) := by decide +kernel
theorem dX3_takeBack_35 : decode cX3_takeBack 35 = .ok (.aload_n 0, 1) := by decide +kernel
theorem dX3_takeBack_36 : decode cX3_takeBack 36 = .ok (.getfield 46, 3) := by decide +kernel
theorem dX3_takeBack_39 : decode cX3_takeBack 39 = .ok (.iaload, 1) := by decide +kernel
theorem dX3_takeBack_40 : decode cX3_takeBack 40 = .ok (.istore_n 3, 1) := by decide +kernel
theorem dX3_takeBack_41 : decode cX3_takeBack 41 = .ok (.aload_n 0, 1) := by decide +kernel
theorem dX3_takeBack_42 : decode cX3_takeBack 42 = .ok (.getfield 39, 3) := by decide +kernel
theorem dX3_takeBack_45 : decode cX3_takeBack 45 = .ok (.aload_n 0, 1) := by decide +kernel
theorem dX3_takeBack_46 : decode cX3_takeBack 46 = .ok (.getfield 46, 3) := by decide +kernel
theorem dX3_takeBack_49 : decode cX3_takeBack 49 = .ok (.iaload, 1) := by decide +kernel
theorem dX3_takeBack_50 : decode cX3_takeBack 50 = .ok (.istore 4, 2) := by decide +kernel
theorem dX3_takeBack_52 : decode cX3_takeBack 52 = .ok (.aload_n 0, 1) := by decide +kernel
theorem dX3_takeBack_53 : decode cX3_takeBack 53 = .ok (.getfield 30, 3) := by decide +kernel
theorem dX3_takeBack_56 : decode cX3_takeBack 56 = .ok (.aload_n 0, 1) := by decide +kernel
theorem dX3_takeBack_57 : decode cX3_takeBack 57 = .ok (.getfield 46, 3) := by decide +kernel
theorem dX3_takeBack_60 : decode cX3_takeBack 60 = .ok (.iaload, 1) := by decide +kernel
theorem dX3_takeBack_61 : decode cX3_takeBack 61 = .ok (.tableswitch 62 2 4 #[27, 37, 50], 27) := by decide +kernel
theorem dX3_takeBack_88 : decode cX3_takeBack 88 = .ok (.aload_n 0, 1) := by decide +kernel
theorem dX3_takeBack_89 : decode cX3_takeBack 89 = .ok (.aload_n 1, 1) := by decide +kernel
theorem dX3_takeBack_90 : decode cX3_takeBack 90 = .ok (.iload_n 2, 1) := by decide +kernel
theorem dX3_takeBack_91 : decode cX3_takeBack 91 = .ok (.iload_n 3, 1) := by decide +kernel
theorem dX3_takeBack_92 : decode cX3_takeBack 92 = .ok (.invokevirtual 69, 3) := by decide +kernel
theorem dX3_takeBack_95 : decode cX3_takeBack 95 = .ok (.goto 47, 3) := by decide +kernel
theorem dX3_takeBack_98 : decode cX3_takeBack 98 = .ok (.aload_n 0, 1) := by decide +kernel
theorem dX3_takeBack_99 : decode cX3_takeBack 99 = .ok (.getfield 9, 3) := by decide +kernel
theorem dX3_takeBack_102 : decode cX3_takeBack 102 = .ok (.iload_n 2, 1) := by decide +kernel
theorem dX3_takeBack_103 : decode cX3_takeBack 103 = .ok (.dup2, 1) := by decide +kernel
theorem dX3_takeBack_104 : decode cX3_takeBack 104 = .ok (.iaload, 1) := by decide +kernel
theorem dX3_takeBack_105 : decode cX3_takeBack 105 = .ok (.iload_n 3, 1) := by decide +kernel
theorem dX3_takeBack_106 : decode cX3_takeBack 106 = .ok (.isub, 1) := by decide +kernel
theorem dX3_takeBack_107 : decode cX3_takeBack 107 = .ok (.iastore, 1) := by decide +kernel
theorem dX3_takeBack_108 : decode cX3_takeBack 108 = .ok (.goto 34, 3) := by decide +kernel
theorem dX3_takeBack_111 : decode cX3_takeBack 111 = .ok (.aload_n 0, 1) := by decide +kernel
theorem dX3_takeBack_112 : decode cX3_takeBack 112 = .ok (.iconst 0, 1) := by decide +kernel
theorem dX3_takeBack_113 : decode cX3_takeBack 113 = .ok (.iload_n 2, 1) := by decide +kernel
theorem dX3_takeBack_114 : decode cX3_takeBack 114 = .ok (.iload_n 3, 1) := by decide +kernel
theorem dX3_takeBack_115 : decode cX3_takeBack 115 = .ok (.iload 4, 2) := by decide +kernel
theorem dX3_takeBack_117 : decode cX3_takeBack 117 = .ok (.invokevirtual 62, 3) := by decide +kernel
theorem dX3_takeBack_120 : decode cX3_takeBack 120 = .ok (.goto 22, 3) := by decide +kernel
theorem dX3_takeBack_123 : decode cX3_takeBack 123 = .ok (.aload_n 0, 1) := by decide +kernel
theorem dX3_takeBack_124 : decode cX3_takeBack 124 = .ok (.aload_n 0, 1) := by decide +kernel
theorem dX3_takeBack_125 : decode cX3_takeBack 125 = .ok (.getfield 30, 3) := by decide +kernel
theorem dX3_takeBack_128 : decode cX3_takeBack 128 = .ok (.aload_n 0, 1) := by decide +kernel
theorem dX3_takeBack_129 : decode cX3_takeBack 129 = .ok (.getfield 46, 3) := by decide +kernel
theorem dX3_takeBack_132 : decode cX3_takeBack 132 = .ok (.iaload, 1) := by decide +kernel
theorem dX3_takeBack_133 : decode cX3_takeBack 133 = .ok (.iload_n 2, 1) := by decide +kernel
theorem dX3_takeBack_134 : decode cX3_takeBack 134 = .ok (.iload_n 3, 1) := by decide +kernel
theorem dX3_takeBack_135 : decode cX3_takeBack 135 = .ok (.ineg, 1) := by decide +kernel
theorem dX3_takeBack_136 : decode cX3_takeBack 136 = .ok (.iload 4, 2) := by decide +kernel
theorem dX3_takeBack_138 : decode cX3_takeBack 138 = .ok (.ineg, 1) := by decide +kernel
theorem dX3_takeBack_139 : decode cX3_takeBack 139 = .ok (.invokevirtual 62, 3) := by decide +kernel
theorem dX3_takeBack_142 : decode cX3_takeBack 142 = .ok (.aload_n 0, 1) := by decide +kernel
theorem dX3_takeBack_143 : decode cX3_takeBack 143 = .ok (.getfield 46, 3) := by decide +kernel
theorem dX3_takeBack_146 : decode cX3_takeBack 146 = .ok (.ireturn, 1) := by decide +kernel
set_option maxRecDepth 20000 in
theorem ggX3_turnPlank_X2_besideOf : GoodIn wsX3_turnPlank wsX2_besideOf := goodIn_r _ [7, 8, 24, 25, 26, 27, 28, 29, 30, 31, 32, 33, 34, 35] (by decide +kernel) (by decide +kernel)
set_option maxRecDepth 20000 in
theorem gX3_turnPlank_X2_besideOf : GoodIn wsX3_turnPlank (wsV RX3 73 RX2 yX2_besideOf wsX2_besideOf) := goodIn_app (goodIn_of _ (by decide +kernel)) ggX3_turnPlank_X2_besideOf
set_option maxRecDepth 20000 in
theorem ggX3_turnPlank_X2_facing : GoodIn wsX3_turnPlank wsX2_facing := goodIn_r _ [11] (by decide +kernel) (by decide +kernel)
set_option maxRecDepth 20000 in
theorem gX3_turnPlank_X2_facing : GoodIn wsX3_turnPlank (va_wsS RX3 77 yX2_facing wsX2_facing) := goodIn_app (goodIn_of _ (by decide +kernel)) ggX3_turnPlank_X2_facing
theorem dX3_turnPlank_0 : decode cX3_turnPlank 0 = .ok (.aload_n 1, 1) := by decide +kernel
theorem dX3_turnPlank_1 : decode cX3_turnPlank 1 = .ok (.iload_n 2, 1) := by decide +kernel
theorem dX3_turnPlank_2 : decode cX3_turnPlank 2 = .ok (.iload_n 3, 1) := by decide +kernel
theorem dX3_turnPlank_3 : decode cX3_turnPlank 3 = .ok (.invokevirtual 73, 3) := by decide +kernel
theorem dX3_turnPlank_6 : decode cX3_turnPlank 6 = .ok (.istore 4, 2) := by decide +kernel
theorem dX3_turnPlank_8 : decode cX3_turnPlank 8 = .ok (.iload 4, 2) := by decide +kernel
theorem dX3_turnPlank_10 : decode cX3_turnPlank 10 = .ok (.iconst (-1), 1) := by decide +kernel
theorem dX3_turnPlank_11 : decode cX3_turnPlank 11 = .ok (.if_icmp .ne 4, 3) := by decide +kernel
theorem dX3_turnPlank_14 : decode cX3_turnPlank 14 = .ok (.return_, 1) := by decide +kernel
theorem dX3_turnPlank_15 : decode cX3_turnPlank 15 = .ok (.aload_n 0, 1) := by decide +kernel
theorem dX3_turnPlank_16 : decode cX3_turnPlank 16 = .ok (.getfield 15, 3) := by decide +kernel
theorem dX3_turnPlank_19 : decode cX3_turnPlank 19 = .ok (.iload_n 2, 1) := by decide +kernel
theorem dX3_turnPlank_20 : decode cX3_turnPlank 20 = .ok (.dup2, 1) := by decide +kernel
theorem dX3_turnPlank_21 : decode cX3_turnPlank 21 = .ok (.iaload, 1) := by decide +kernel
theorem dX3_turnPlank_22 : decode cX3_turnPlank 22 = .ok (.iconst 1, 1) := by decide +kernel
theorem dX3_turnPlank_23 : decode cX3_turnPlank 23 = .ok (.iload_n 3, 1) := by decide +kernel
theorem dX3_turnPlank_24 : decode cX3_turnPlank 24 = .ok (.ishl, 1) := by decide +kernel
theorem dX3_turnPlank_25 : decode cX3_turnPlank 25 = .ok (.ixor, 1) := by decide +kernel
theorem dX3_turnPlank_26 : decode cX3_turnPlank 26 = .ok (.iastore, 1) := by decide +kernel
theorem dX3_turnPlank_27 : decode cX3_turnPlank 27 = .ok (.aload_n 0, 1) := by decide +kernel
theorem dX3_turnPlank_28 : decode cX3_turnPlank 28 = .ok (.getfield 15, 3) := by decide +kernel
theorem dX3_turnPlank_31 : decode cX3_turnPlank 31 = .ok (.iload 4, 2) := by decide +kernel
theorem dX3_turnPlank_33 : decode cX3_turnPlank 33 = .ok (.dup2, 1) := by decide +kernel
theorem dX3_turnPlank_34 : decode cX3_turnPlank 34 = .ok (.iaload, 1) := by decide +kernel
theorem dX3_turnPlank_35 : decode cX3_turnPlank 35 = .ok (.iconst 1, 1) := by decide +kernel
theorem dX3_turnPlank_36 : decode cX3_turnPlank 36 = .ok (.iload_n 3, 1) := by decide +kernel
theorem dX3_turnPlank_37 : decode cX3_turnPlank 37 = .ok (.invokestatic 77, 3) := by decide +kernel
theorem dX3_turnPlank_40 : decode cX3_turnPlank 40 = .ok (.ishl, 1) := by decide +kernel
theorem dX3_turnPlank_41 : decode cX3_turnPlank 41 = .ok (.ixor, 1) := by decide +kernel
theorem dX3_turnPlank_42 : decode cX3_turnPlank 42 = .ok (.iastore, 1) := by decide +kernel
theorem dX3_turnPlank_43 : decode cX3_turnPlank 43 = .ok (.aload_n 0, 1) := by decide +kernel
theorem dX3_turnPlank_44 : decode cX3_turnPlank 44 = .ok (.dup, 1) := by decide +kernel
theorem dX3_turnPlank_45 : decode cX3_turnPlank 45 = .ok (.getfield 42, 3) := by decide +kernel
theorem dX3_turnPlank_48 : decode cX3_turnPlank 48 = .ok (.aload_n 0, 1) := by decide +kernel
theorem dX3_turnPlank_49 : decode cX3_turnPlank 49 = .ok (.getfield 15, 3) := by decide +kernel
theorem dX3_turnPlank_52 : decode cX3_turnPlank 52 = .ok (.iload_n 2, 1) := by decide +kernel
theorem dX3_turnPlank_53 : decode cX3_turnPlank 53 = .ok (.iaload, 1) := by decide +kernel
theorem dX3_turnPlank_54 : decode cX3_turnPlank 54 = .ok (.iload_n 3, 1) := by decide +kernel
theorem dX3_turnPlank_55 : decode cX3_turnPlank 55 = .ok (.ishr, 1) := by decide +kernel
theorem dX3_turnPlank_56 : decode cX3_turnPlank 56 = .ok (.iconst 1, 1) := by decide +kernel
theorem dX3_turnPlank_57 : decode cX3_turnPlank 57 = .ok (.iand, 1) := by decide +kernel
theorem dX3_turnPlank_58 : decode cX3_turnPlank 58 = .ok (.ifCond .eq 7, 3) := by decide +kernel
theorem dX3_turnPlank_61 : decode cX3_turnPlank 61 = .ok (.iconst 1, 1) := by decide +kernel
theorem dX3_turnPlank_62 : decode cX3_turnPlank 62 = .ok (.goto 4, 3) := by decide +kernel
theorem dX3_turnPlank_65 : decode cX3_turnPlank 65 = .ok (.iconst (-1), 1) := by decide +kernel
theorem dX3_turnPlank_66 : decode cX3_turnPlank 66 = .ok (.iadd, 1) := by decide +kernel
theorem dX3_turnPlank_67 : decode cX3_turnPlank 67 = .ok (.putfield 42, 3) := by decide +kernel
theorem dX3_turnPlank_70 : decode cX3_turnPlank 70 = .ok (.return_, 1) := by decide +kernel
theorem dX3_addCoins_0 : decode cX3_addCoins 0 = .ok (.iload_n 1, 1) := by decide +kernel
theorem dX3_addCoins_1 : decode cX3_addCoins 1 = .ok (.iconst 1, 1) := by decide +kernel
theorem dX3_addCoins_2 : decode cX3_addCoins 2 = .ok (.if_icmp .ne 27, 3) := by decide +kernel
theorem dX3_addCoins_5 : decode cX3_addCoins 5 = .ok (.aload_n 0, 1) := by decide +kernel
theorem dX3_addCoins_6 : decode cX3_addCoins 6 = .ok (.getfield 24, 3) := by decide +kernel
theorem dX3_addCoins_9 : decode cX3_addCoins 9 = .ok (.iload_n 2, 1) := by decide +kernel
theorem dX3_addCoins_10 : decode cX3_addCoins 10 = .ok (.dup2, 1) := by decide +kernel
theorem dX3_addCoins_11 : decode cX3_addCoins 11 = .ok (.iaload, 1) := by decide +kernel
theorem dX3_addCoins_12 : decode cX3_addCoins 12 = .ok (.iload_n 3, 1) := by decide +kernel
theorem dX3_addCoins_13 : decode cX3_addCoins 13 = .ok (.iadd, 1) := by decide +kernel
theorem dX3_addCoins_14 : decode cX3_addCoins 14 = .ok (.iastore, 1) := by decide +kernel
theorem dX3_addCoins_15 : decode cX3_addCoins 15 = .ok (.aload_n 0, 1) := by decide +kernel
theorem dX3_addCoins_16 : decode cX3_addCoins 16 = .ok (.getfield 27, 3) := by decide +kernel
theorem dX3_addCoins_19 : decode cX3_addCoins 19 = .ok (.iload_n 2, 1) := by decide +kernel
theorem dX3_addCoins_20 : decode cX3_addCoins 20 = .ok (.dup2, 1) := by decide +kernel
theorem dX3_addCoins_21 : decode cX3_addCoins 21 = .ok (.iaload, 1) := by decide +kernel
theorem dX3_addCoins_22 : decode cX3_addCoins 22 = .ok (.iload 4, 2) := by decide +kernel
theorem dX3_addCoins_24 : decode cX3_addCoins 24 = .ok (.iadd, 1) := by decide +kernel
theorem dX3_addCoins_25 : decode cX3_addCoins 25 = .ok (.iastore, 1) := by decide +kernel
theorem dX3_addCoins_26 : decode cX3_addCoins 26 = .ok (.goto 24, 3) := by decide +kernel
theorem dX3_addCoins_29 : decode cX3_addCoins 29 = .ok (.aload_n 0, 1) := by decide +kernel
theorem dX3_addCoins_30 : decode cX3_addCoins 30 = .ok (.getfield 18, 3) := by decide +kernel
theorem dX3_addCoins_33 : decode cX3_addCoins 33 = .ok (.iload_n 2, 1) := by decide +kernel
theorem dX3_addCoins_34 : decode cX3_addCoins 34 = .ok (.dup2, 1) := by decide +kernel
theorem dX3_addCoins_35 : decode cX3_addCoins 35 = .ok (.iaload, 1) := by decide +kernel
theorem dX3_addCoins_36 : decode cX3_addCoins 36 = .ok (.iload_n 3, 1) := by decide +kernel
theorem dX3_addCoins_37 : decode cX3_addCoins 37 = .ok (.iadd, 1) := by decide +kernel
theorem dX3_addCoins_38 : decode cX3_addCoins 38 = .ok (.iastore, 1) := by decide +kernel
theorem dX3_addCoins_39 : decode cX3_addCoins 39 = .ok (.aload_n 0, 1) := by decide +kernel
theorem dX3_addCoins_40 : decode cX3_addCoins 40 = .ok (.getfield 21, 3) := by decide +kernel
theorem dX3_addCoins_43 : decode cX3_addCoins 43 = .ok (.iload_n 2, 1) := by decide +kernel
theorem dX3_addCoins_44 : decode cX3_addCoins 44 = .ok (.dup2, 1) := by decide +kernel
theorem dX3_addCoins_45 : decode cX3_addCoins 45 = .ok (.iaload, 1) := by decide +kernel
theorem dX3_addCoins_46 : decode cX3_addCoins 46 = .ok (.iload 4, 2) := by decide +kernel
theorem dX3_addCoins_48 : decode cX3_addCoins 48 = .ok (.iadd, 1) := by decide +kernel
theorem dX3_addCoins_49 : decode cX3_addCoins 49 = .ok (.iastore, 1) := by decide +kernel
theorem dX3_addCoins_50 : decode cX3_addCoins 50 = .ok (.return_, 1) := by decide +kernel
set_option maxRecDepth 20000 in
theorem ggX3_note_X3_loseOldest : GoodIn wsX3_note wsX3_loseOldest := goodIn_r _ [9, 10, 11, 12, 13] (by decide +kernel) (by decide +kernel)
set_option maxRecDepth 20000 in
theorem gX3_note_X3_loseOldest : GoodIn wsX3_note (va_wsS RX3 81 yX3_loseOldest wsX3_loseOldest) := goodIn_app (goodIn_of _ (by decide +kernel)) ggX3_note_X3_loseOldest
theorem dX3_note_0 : decode cX3_note 0 = .ok (.aload_n 0, 1) := by decide +kernel
theorem dX3_note_1 : decode cX3_note 1 = .ok (.getfield 46, 3) := by decide +kernel
theorem dX3_note_4 : decode cX3_note 4 = .ok (.bipush 10, 2) := by decide +kernel
theorem dX3_note_6 : decode cX3_note 6 = .ok (.if_icmp .lt 37, 3) := by decide +kernel
theorem dX3_note_9 : decode cX3_note 9 = .ok (.aload_n 0, 1) := by decide +kernel
theorem dX3_note_10 : decode cX3_note 10 = .ok (.getfield 30, 3) := by decide +kernel
theorem dX3_note_13 : decode cX3_note 13 = .ok (.invokestatic 81, 3) := by decide +kernel
theorem dX3_note_16 : decode cX3_note 16 = .ok (.aload_n 0, 1) := by decide +kernel
theorem dX3_note_17 : decode cX3_note 17 = .ok (.getfield 33, 3) := by decide +kernel
theorem dX3_note_20 : decode cX3_note 20 = .ok (.invokestatic 81, 3) := by decide +kernel
theorem dX3_note_23 : decode cX3_note 23 = .ok (.aload_n 0, 1) := by decide +kernel
theorem dX3_note_24 : decode cX3_note 24 = .ok (.getfield 36, 3) := by decide +kernel
theorem dX3_note_27 : decode cX3_note 27 = .ok (.invokestatic 81, 3) := by decide +kernel
theorem dX3_note_30 : decode cX3_note 30 = .ok (.aload_n 0, 1) := by decide +kernel
theorem dX3_note_31 : decode cX3_note 31 = .ok (.getfield 39, 3) := by decide +kernel
theorem dX3_note_34 : decode cX3_note 34 = .ok (.invokestatic 81, 3) := by decide +kernel
theorem dX3_note_37 : decode cX3_note 37 = .ok (.aload_n 0, 1) := by decide +kernel
theorem dX3_note_38 : decode cX3_note 38 = .ok (.bipush 9, 2) := by decide +kernel
theorem dX3_note_40 : decode cX3_note 40 = .ok (.putfield 46, 3) := by decide +kernel
theorem dX3_note_43 : decode cX3_note 43 = .ok (.aload_n 0, 1) := by decide +kernel
theorem dX3_note_44 : decode cX3_note 44 = .ok (.getfield 30, 3) := by decide +kernel
theorem dX3_note_47 : decode cX3_note 47 = .ok (.aload_n 0, 1) := by decide +kernel
theorem dX3_note_48 : decode cX3_note 48 = .ok (.getfield 46, 3) := by decide +kernel
theorem dX3_note_51 : decode cX3_note 51 = .ok (.iload_n 1, 1) := by decide +kernel
theorem dX3_note_52 : decode cX3_note 52 = .ok (.iastore, 1) := by decide +kernel
theorem dX3_note_53 : decode cX3_note 53 = .ok (.aload_n 0, 1) := by decide +kernel
theorem dX3_note_54 : decode cX3_note 54 = .ok (.getfield 33, 3) := by decide +kernel
theorem dX3_note_57 : decode cX3_note 57 = .ok (.aload_n 0, 1) := by decide +kernel
theorem dX3_note_58 : decode cX3_note 58 = .ok (.getfield 46, 3) := by decide +kernel
theorem dX3_note_61 : decode cX3_note 61 = .ok (.iload_n 2, 1) := by decide +kernel
theorem dX3_note_62 : decode cX3_note 62 = .ok (.iastore, 1) := by decide +kernel
theorem dX3_note_63 : decode cX3_note 63 = .ok (.aload_n 0, 1) := by decide +kernel
theorem dX3_note_64 : decode cX3_note 64 = .ok (.getfield 36, 3) := by decide +kernel
theorem dX3_note_67 : decode cX3_note 67 = .ok (.aload_n 0, 1) := by decide +kernel
theorem dX3_note_68 : decode cX3_note 68 = .ok (.getfield 46, 3) := by decide +kernel
theorem dX3_note_71 : decode cX3_note 71 = .ok (.iload_n 3, 1) := by decide +kernel
theorem dX3_note_72 : decode cX3_note 72 = .ok (.iastore, 1) := by decide +kernel
theorem dX3_note_73 : decode cX3_note 73 = .ok (.aload_n 0, 1) := by decide +kernel
theorem dX3_note_74 : decode cX3_note 74 = .ok (.getfield 39, 3) := by decide +kernel
theorem dX3_note_77 : decode cX3_note 77 = .ok (.aload_n 0, 1) := by decide +kernel
theorem dX3_note_78 : decode cX3_note 78 = .ok (.getfield 46, 3) := by decide +kernel
theorem dX3_note_81 : decode cX3_note 81 = .ok (.iload 4, 2) := by decide +kernel
theorem dX3_note_83 : decode cX3_note 83 = .ok (.iastore, 1) := by decide +kernel
theorem dX3_note_84 : decode cX3_note 84 = .ok (.aload_n 0, 1) := by decide +kernel
theorem dX3_note_85 : decode cX3_note 85 = .ok (.dup, 1) := by decide +kernel
theorem dX3_note_86 : decode cX3_note 86 = .ok (.getfield 46, 3) := by decide +kernel
theorem dX3_note_89 : decode cX3_note 89 = .ok (.iconst 1, 1) := by decide +kernel
theorem dX3_note_90 : decode cX3_note 90 = .ok (.iadd, 1) := by decide +kernel
theorem dX3_note_91 : decode cX3_note 91 = .ok (.putfield 46, 3) := by decide +kernel
theorem dX3_note_94 : decode cX3_note 94 = .ok (.return_, 1) := by decide +kernel
theorem dX3_loseOldest_0 : decode cX3_loseOldest 0 = .ok (.aload_n 0, 1) := by decide +kernel
theorem dX3_loseOldest_1 : decode cX3_loseOldest 1 = .ok (.iconst 1, 1) := by decide +kernel
theorem dX3_loseOldest_2 : decode cX3_loseOldest 2 = .ok (.aload_n 0, 1) := by decide +kernel
theorem dX3_loseOldest_3 : decode cX3_loseOldest 3 = .ok (.iconst 0, 1) := by decide +kernel
theorem dX3_loseOldest_4 : decode cX3_loseOldest 4 = .ok (.aload_n 0, 1) := by decide +kernel
theorem dX3_loseOldest_5 : decode cX3_loseOldest 5 = .ok (.arraylength, 1) := by decide +kernel
theorem dX3_loseOldest_6 : decode cX3_loseOldest 6 = .ok (.iconst 1, 1) := by decide +kernel
theorem dX3_loseOldest_7 : decode cX3_loseOldest 7 = .ok (.isub, 1) := by decide +kernel
theorem dX3_loseOldest_8 : decode cX3_loseOldest 8 = .ok (.invokestatic 85, 3) := by decide +kernel
theorem dX3_loseOldest_11 : decode cX3_loseOldest 11 = .ok (.return_, 1) := by decide +kernel
theorem dX3_copyRow_0 : decode cX3_copyRow 0 = .ok (.aload_n 0, 1) := by decide +kernel
theorem dX3_copyRow_1 : decode cX3_copyRow 1 = .ok (.iconst 0, 1) := by decide +kernel
theorem dX3_copyRow_2 : decode cX3_copyRow 2 = .ok (.aload_n 1, 1) := by decide +kernel
theorem dX3_copyRow_3 : decode cX3_copyRow 3 = .ok (.iconst 0, 1) := by decide +kernel
