def GA0 : List Cond := [.code yJxa1e45_init_da8c8 cJxa1e45_init_da8c8 1 none, .methodLink RJxa1e45 1 objectInit, .instanceMethod objectInit, .code objectInit ⟨#[0xb1]⟩ 1 none, .code yJxc12de_init_da8c8 cJxc12de_init_da8c8 1 none, .fieldLink RJxc12de 7 "java/util/AbstractList" "modCount" "I", .methodLink RJxc12de 1 yJxa1e45_init_da8c8, .instanceMethod yJxa1e45_init_da8c8, .initialized RJxa1e45, .code yJx4a65c_init_da8c8 cJx4a65c_init_da8c8 1 none, .fieldLink RJx4a65c 39 "java/util/ArrayList" "DEFAULTCAPACITY_EMPTY_ELEMENTDATA" "[Ljava/lang/Object;", .fieldLink RJx4a65c 9 "java/util/ArrayList" "elementData" "[Ljava/lang/Object;", .methodLink RJx4a65c 1 yJxc12de_init_da8c8, .instanceMethod yJxc12de_init_da8c8, .initialized RJxc12de, .code yX5_init cX5_init 2 none, .methodLink RX5 1 objectInit, .arrayClass .int, .fieldLink RX5 7 "Housestyle$Row" "cells" "[I", .fieldLink RX5 13 "Housestyle$Row" "count" "I", .code yX0_init cX0_init 1 none, .methodLink RX0 3 objectInit, .classLink RX0 9 RJx4a65c, .instantiable RJx4a65c 3]
def GA1 : List Cond := [.initialized RJx4a65c, .fieldLink RX0 12 "Housestyle$Book" "rules" "Ljava/util/ArrayList;", .fieldLink RX0 18 "Housestyle$Book" "pairs" "Ljava/util/ArrayList;", .classLink RX0 21 RX5, .instantiable RX5 2, .initialized RX5, .fieldLink RX0 26 "Housestyle$Book" "hits" "LHousestyle$Row;", .methodLink RX0 11 yJx4a65c_init_da8c8, .instanceMethod yJx4a65c_init_da8c8, .methodLink RX0 23 yX5_init, .instanceMethod yX5_init, .code yX5_count cX5_count 1 (some .int), .code yX8_count cX8_count 1 (some .int), .fieldLink RX8 20 "Housestyle$Tokens" "froms" "LHousestyle$Row;", .methodLink RX8 58 yX5_count, .instanceMethod yX5_count, .selects RX5 yX5_count yX5_count, .code yX5_reset cX5_reset 3 none, .code yJx4a65c_size_8abf5 cJx4a65c_size_8abf5 1 (some .int), .fieldLink RJx4a65c 48 "java/util/ArrayList" "size" "I", .code yJ3_checkIndex_8e157 cJ3_checkIndex_8e157 3 (some .int), .code yJ15_checkIndex_7cf53 cJ15_checkIndex_7cf53 2 (some .int), .methodLink RJ15 105 yJ3_checkIndex_8e157, .static yJ3_checkIndex_8e157]
def GA2 : List Cond := [.initialized RJ3, .code yJx4a65c_elementData_915e3 cJx4a65c_elementData_915e3 2 (some (.object "java/lang/Object")), .code yJx4a65c_get_915e3 cJx4a65c_get_915e3 2 (some (.object "java/lang/Object")), .methodLink RJx4a65c 118 yJ15_checkIndex_7cf53, .static yJ15_checkIndex_7cf53, .initialized RJ15, .methodLink RJx4a65c 123 yJx4a65c_elementData_915e3, .instanceMethod yJx4a65c_elementData_915e3, .selects RJx4a65c yJx4a65c_elementData_915e3 yJx4a65c_elementData_915e3, .code yX5_get cX5_get 2 (some .int), .code yX8_isQuoted cX8_isQuoted 2 (some .boolean), .fieldLink RX8 32 "Housestyle$Tokens" "quoted" "LHousestyle$Row;", .methodLink RX8 62 yX5_get, .instanceMethod yX5_get, .selects RX5 yX5_get yX5_get, .code yX8_isFirst cX8_isFirst 2 (some .boolean), .fieldLink RX8 35 "Housestyle$Tokens" "first" "LHousestyle$Row;", .code yX8_goesOn cX8_goesOn 3 (some .boolean), .fieldLink RX8 23 "Housestyle$Tokens" "ends" "LHousestyle$Row;", .fieldLink RX8 9 "Housestyle$Tokens" "signs" "LHousestyle$Row;", .methodLink RX8 90 yX8_count, .instanceMethod yX8_count, .selects RX8 yX8_count yX8_count, .initialized RX8]
def GA3 : List Cond := [.code yX8_isNumber cX8_isNumber 2 (some .boolean), .fieldLink RX8 26 "Housestyle$Tokens" "kinds" "LHousestyle$Row;", .code yX8_isWord cX8_isWord 2 (some .boolean), .code yX8_begins cX8_begins 5 (some .boolean), .code yX8_lengthOf cX8_lengthOf 2 (some .int), .code yX3_fits cX3_fits 3 (some .boolean), .fieldLink RX3 13 "Housestyle$Item" "isNumber" "Z", .fieldLink RX3 26 "Housestyle$Item" "letters" "LHousestyle$Row;", .fieldLink RX3 19 "Housestyle$Item" "hasStar" "Z", .methodLink RX3 36 yX8_isNumber, .instanceMethod yX8_isNumber, .selects RX8 yX8_isNumber yX8_isNumber, .methodLink RX3 41 yX8_isWord, .instanceMethod yX8_isWord, .selects RX8 yX8_isWord yX8_isWord, .methodLink RX3 43 yX8_begins, .instanceMethod yX8_begins, .selects RX8 yX8_begins yX8_begins, .methodLink RX3 47 yX8_lengthOf, .instanceMethod yX8_lengthOf, .selects RX8 yX8_lengthOf yX8_lengthOf, .methodLink RX3 50 yX5_count, .code yX8_aheadOf cX8_aheadOf 2 (some .int), .fieldLink RX8 38 "Housestyle$Tokens" "ahead" "LHousestyle$Row;"]
def GA4 : List Cond := [.code yX8_isThe cX8_isThe 3 (some .boolean), .methodLink RX8 100 yX8_lengthOf, .methodLink RX8 103 yX8_begins, .code yX6_isExcepted cX6_isExcepted 5 (some .boolean), .fieldLink RX6 49 "Housestyle$Rule" "exceptions" "Ljava/util/ArrayList;", .classLink RX6 19 "Housestyle$Row", .methodLink RX6 90 yX8_aheadOf, .instanceMethod yX8_aheadOf, .selects RX8 yX8_aheadOf yX8_aheadOf, .methodLink RX6 74 yJx4a65c_size_8abf5, .instanceMethod yJx4a65c_size_8abf5, .selects RJx4a65c yJx4a65c_size_8abf5 yJx4a65c_size_8abf5, .methodLink RX6 80 yJx4a65c_get_915e3, .instanceMethod yJx4a65c_get_915e3, .selects RJx4a65c yJx4a65c_get_915e3 yJx4a65c_get_915e3, .methodLink RX6 93 yX8_isThe, .instanceMethod yX8_isThe, .selects RX8 yX8_isThe yX8_isThe, .code yX6_isFoundAt cX6_isFoundAt 4 (some .boolean), .fieldLink RX6 41 "Housestyle$Rule" "inQuotes" "Z", .fieldLink RX6 37 "Housestyle$Rule" "condition" "C", .fieldLink RX6 12 "Housestyle$Rule" "items" "Ljava/util/ArrayList;", .classLink RX6 28 "Housestyle$Item", .methodLink RX6 66 yX8_isQuoted]
def GA5 : List Cond := [.instanceMethod yX8_isQuoted, .selects RX8 yX8_isQuoted yX8_isQuoted, .methodLink RX6 71 yX8_isFirst, .instanceMethod yX8_isFirst, .selects RX8 yX8_isFirst yX8_isFirst, .methodLink RX6 77 yX8_goesOn, .instanceMethod yX8_goesOn, .selects RX8 yX8_goesOn yX8_goesOn, .methodLink RX6 83 yX3_fits, .instanceMethod yX3_fits, .selects RX3 yX3_fits yX3_fits, .initialized RX3, .methodLink RX6 87 yX6_isExcepted, .instanceMethod yX6_isExcepted, .selects RX6 yX6_isExcepted yX6_isExcepted, .initialized RX6, .code yX5_set cX5_set 3 none, .code yX0_addHit cX0_addHit 3 none, .methodLink RX0 62 yX5_get, .methodLink RX0 65 yX5_set, .instanceMethod yX5_set, .selects RX5 yX5_set yX5_set, .code yX0_lookForPair cX0_lookForPair 6 none, .methodLink RX0 30 yX8_count]
def GA6 : List Cond := [.methodLink RX0 68 yX8_isQuoted, .methodLink RX0 72 yX8_isThe, .methodLink RX0 52 yX0_addHit, .instanceMethod yX0_addHit, .selects RX0 yX0_addHit yX0_addHit, .initialized RX0, .code yX0_look cX0_look 5 none, .classLink RX0 46 "Housestyle$Rule", .classLink RX0 56 "Housestyle$Pair", .methodLink RX0 36 yX5_reset, .instanceMethod yX5_reset, .selects RX5 yX5_reset yX5_reset, .methodLink RX0 39 yJx4a65c_size_8abf5, .methodLink RX0 42 yJx4a65c_get_915e3, .methodLink RX0 48 yX6_isFoundAt, .instanceMethod yX6_isFoundAt, .selects RX6 yX6_isFoundAt yX6_isFoundAt, .methodLink RX0 58 yX0_lookForPair, .instanceMethod yX0_lookForPair, .selects RX0 yX0_lookForPair yX0_lookForPair, .code yX8_valueOf cX8_valueOf 2 (some .int), .fieldLink RX8 29 "Housestyle$Tokens" "values" "LHousestyle$Row;", .code yX0_foundAt cX0_foundAt 5 (some .int), .constant RX0 97 (1048576)]
def GA7 : List Cond := [.methodLink RX0 88 yX8_isNumber, .methodLink RX0 91 yX8_valueOf, .instanceMethod yX8_valueOf, .selects RX8 yX8_valueOf yX8_valueOf, .code yX0_itemsOf cX0_itemsOf 2 (some .int), .code yX0_rankAt cX0_rankAt 4 (some .int), .code yX0_ofRank cX0_ofRank 5 (some .int), .methodLink RX0 107 yX0_rankAt, .instanceMethod yX0_rankAt, .selects RX0 yX0_rankAt yX0_rankAt, .code yX0_suggestionsOf cX0_suggestionsOf 2 (some .int), .code yX5_add cX5_add 2 none, .code yX8_write cX8_write 5 none, .methodLink RX8 87 yX5_add, .instanceMethod yX5_add, .selects RX5 yX5_add yX5_add, .code yX6_writeTaken cX6_writeTaken 6 none, .methodLink RX6 18 yX5_count, .methodLink RX6 111 yX8_write, .instanceMethod yX8_write, .selects RX8 yX8_write yX8_write, .code yX6_writeSuggestion cX6_writeSuggestion 7 none, .fieldLink RX6 52 "Housestyle$Rule" "suggestions" "Ljava/util/ArrayList;", .methodLink RX6 24 yX5_get]
def GA8 : List Cond := [.methodLink RX6 97 yX6_writeTaken, .instanceMethod yX6_writeTaken, .selects RX6 yX6_writeTaken yX6_writeTaken, .methodLink RX6 101 yX5_add, .code yX4_unlike cX4_unlike 3 (some (.object "Housestyle$Row")), .fieldLink RX4 7 "Housestyle$Pair" "one" "LHousestyle$Row;", .fieldLink RX4 13 "Housestyle$Pair" "other" "LHousestyle$Row;", .methodLink RX4 16 yX8_isThe, .code yX0_writeSuggestion cX0_writeSuggestion 8 none, .methodLink RX0 114 yX6_writeSuggestion, .instanceMethod yX6_writeSuggestion, .selects RX6 yX6_writeSuggestion yX6_writeSuggestion, .methodLink RX0 118 yX4_unlike, .instanceMethod yX4_unlike, .selects RX4 yX4_unlike yX4_unlike, .initialized RX4, .methodLink RX0 122 yX5_count, .methodLink RX0 123 yX5_add, .code yX1_init cX1_init 1 none, .methodLink RX1 3 objectInit, .classLink RX1 9 RX5, .fieldLink RX1 14 "Housestyle$Desk" "ranks" "LHousestyle$Row;", .fieldLink RX1 23 "Housestyle$Desk" "ignoredRules" "LHousestyle$Row;", .fieldLink RX1 26 "Housestyle$Desk" "ignoredFroms" "LHousestyle$Row;"]
def GA9 : List Cond := [.fieldLink RX1 29 "Housestyle$Desk" "ignoredLengths" "LHousestyle$Row;", .fieldLink RX1 32 "Housestyle$Desk" "numbersBelow" "I", .fieldLink RX1 36 "Housestyle$Desk" "leftOut" "I", .methodLink RX1 11 yX5_init, .methodLink RX1 20 yX5_reset, .code yX1_uses cX1_uses 2 (some .boolean), .code yX1_setUse cX1_setUse 3 none, .code yX1_ignoredCount cX1_ignoredCount 1 (some .int), .methodLink RX1 39 yX5_count, .code yX1_addIgnored cX1_addIgnored 4 none, .methodLink RX1 43 yX5_add, .code yX5_clear cX5_clear 1 none, .code yX1_clearIgnored cX1_clearIgnored 1 none, .methodLink RX1 46 yX5_clear, .instanceMethod yX5_clear, .selects RX5 yX5_clear yX5_clear, .code yX1_ignores cX1_ignores 5 (some .boolean), .methodLink RX1 49 yX1_ignoredCount, .instanceMethod yX1_ignoredCount, .selects RX1 yX1_ignoredCount yX1_ignoredCount, .initialized RX1, .methodLink RX1 52 yX5_get, .code yX5_remove cX5_remove 4 (some .int), .code yX1_forget cX1_forget 2 none]
def GA10 : List Cond := [.methodLink RX1 63 yX5_remove, .instanceMethod yX5_remove, .selects RX5 yX5_remove yX5_remove, .code yX1_followPut cX1_followPut 4 none, .methodLink RX1 56 yX5_set, .methodLink RX1 60 yX1_forget, .instanceMethod yX1_forget, .selects RX1 yX1_forget yX1_forget, .code yX1_followTake cX1_followTake 4 none, .code yX1_ignoredLieWithin cX1_ignoredLieWithin 4 (some .boolean), .code yX2_init cX2_init 3 none, .methodLink RX2 3 objectInit, .fieldLink RX2 9 "Housestyle$Findings" "book" "LHousestyle$Book;", .fieldLink RX2 15 "Housestyle$Findings" "tokens" "LHousestyle$Tokens;", .classLink RX2 19 RX5, .fieldLink RX2 24 "Housestyle$Findings" "covered" "LHousestyle$Row;", .fieldLink RX2 28 "Housestyle$Findings" "takenAt" "LHousestyle$Row;", .fieldLink RX2 31 "Housestyle$Findings" "itsTokens" "LHousestyle$Row;", .fieldLink RX2 34 "Housestyle$Findings" "itsRules" "LHousestyle$Row;", .methodLink RX2 21 yX5_init, .code yX2_count cX2_count 1 (some .int), .methodLink RX2 37 yX5_count, .code yX2_tokenOf cX2_tokenOf 2 (some .int), .methodLink RX2 41 yX5_get]
def GA11 : List Cond := [.code yX2_ruleOf cX2_ruleOf 2 (some .int), .code yX8_fromOf cX8_fromOf 2 (some .int), .code yX2_fromOf cX2_fromOf 2 (some .int), .methodLink RX2 45 yX8_fromOf, .instanceMethod yX8_fromOf, .selects RX8 yX8_fromOf yX8_fromOf, .code yX8_endOf cX8_endOf 2 (some .int), .code yX2_lengthAt cX2_lengthAt 3 (some .int), .methodLink RX2 54 yX0_itemsOf, .instanceMethod yX0_itemsOf, .selects RX0 yX0_itemsOf yX0_itemsOf, .methodLink RX2 59 yX8_endOf, .instanceMethod yX8_endOf, .selects RX8 yX8_endOf yX8_endOf, .code yX2_lengthOf cX2_lengthOf 2 (some .int), .methodLink RX2 50 yX2_lengthAt, .instanceMethod yX2_lengthAt, .selects RX2 yX2_lengthAt yX2_lengthAt, .initialized RX2, .code yX2_isFree cX2_isFree 4 (some .boolean), .code yX2_cover cX2_cover 4 none, .methodLink RX2 98 yX5_set, .code yX2_takeBest cX2_takeBest 6 none, .methodLink RX2 84 yX2_isFree]
def GA12 : List Cond := [.instanceMethod yX2_isFree, .selects RX2 yX2_isFree yX2_isFree, .methodLink RX2 88 yX1_ignores, .instanceMethod yX1_ignores, .selects RX1 yX1_ignores yX1_ignores, .methodLink RX2 94 yX2_cover, .instanceMethod yX2_cover, .selects RX2 yX2_cover yX2_cover, .code yX2_solve cX2_solve 5 none, .methodLink RX2 62 yX8_count, .methodLink RX2 63 yX5_reset, .methodLink RX2 66 yX0_ofRank, .instanceMethod yX0_ofRank, .selects RX0 yX0_ofRank yX0_ofRank, .methodLink RX2 70 yX0_foundAt, .instanceMethod yX0_foundAt, .selects RX0 yX0_foundAt yX0_foundAt, .methodLink RX2 74 yX2_takeBest, .instanceMethod yX2_takeBest, .selects RX2 yX2_takeBest yX2_takeBest, .methodLink RX2 78 yX5_clear, .methodLink RX2 81 yX5_add, .code yX2_shareNoSign cX2_shareNoSign 2 (some .boolean), .methodLink RX2 101 yX2_count]
def GA13 : List Cond := [.instanceMethod yX2_count, .selects RX2 yX2_count yX2_count, .methodLink RX2 102 yX2_fromOf, .instanceMethod yX2_fromOf, .selects RX2 yX2_fromOf yX2_fromOf, .methodLink RX2 103 yX2_lengthOf, .instanceMethod yX2_lengthOf, .selects RX2 yX2_lengthOf yX2_lengthOf, .code yX2_isLeftOut cX2_isLeftOut 7 (some .boolean), .code yX2_accountForAll cX2_accountForAll 7 (some .boolean), .methodLink RX2 106 yX2_isLeftOut, .instanceMethod yX2_isLeftOut, .selects RX2 yX2_isLeftOut yX2_isLeftOut, .code yX5_part cX5_part 5 (some (.object "Housestyle$Row")), .classLink RX5 8 RX5, .methodLink RX5 21 yX5_init, .methodLink RX5 17 yX5_get, .methodLink RX5 24 yX5_add, .code yX3_init cX3_init 4 none, .methodLink RX3 1 objectInit, .methodLink RX3 7 yX5_get, .methodLink RX3 22 yX5_part, .instanceMethod yX5_part, .selects RX5 yX5_part yX5_part]
def GA14 : List Cond := [.code yX9_isLetter cX9_isLetter 1 (some .boolean), .code yX9_isWord cX9_isWord 5 (some .boolean), .methodLink RX9 130 yX5_get, .methodLink RX9 332 yX9_isLetter, .static yX9_isLetter, .initialized RX9, .code yX3_isItem cX3_isItem 4 (some .boolean), .static yX9_isWord, .code yX4_init cX4_init 3 none, .methodLink RX4 1 objectInit, .code yX5_insert cX5_insert 4 none, .code yX5_placeOf cX5_placeOf 3 (some .int), .code yX5_isLike cX5_isLike 3 (some .boolean), .code yJ8_hugeLength_7cf53 cJ8_hugeLength_7cf53 3 (some .int), .constant RJ8 200 (2147483639), .code yJ8_newLength_cabcc cJ8_newLength_cabcc 4 (some .int), .methodLink RJ8 194 Lib.Math.max.name, .static Lib.Math.max.name, .initialized "java/lang/Math", .code Lib.Math.max.name Lib.Math.max.code 2 (some .int), .methodLink RJ8 201 yJ8_hugeLength_7cf53, .static yJ8_hugeLength_7cf53, .initialized RJ8, .code yJ7_copyOf_6403c cJ7_copyOf_6403c 4 (some (.array (.object "java/lang/Object")))]
def GA15 : List Cond := [.classLink RJ7 110 "[Ljava/lang/Object;", .classLink RJ7 2 "java/lang/Object", .methodLink RJ7 304 Lib.Math.min.name, .static Lib.Math.min.name, .code Lib.Math.min.name Lib.Math.min.code 2 (some .int), .methodLink RJ7 150 arraycopyName, .native arraycopyName, .static arraycopyName, .initialized "java/lang/System", .code yJ7_copyOf_1904c cJ7_copyOf_1904c 2 (some (.array (.object "java/lang/Object"))), .methodLink RJ7 86 ⟨"java/lang/Object", "getClass", "()Ljava/lang/Class;"⟩, .selects "[Ljava/lang/Object;" ⟨"java/lang/Object", "getClass", "()Ljava/lang/Class;"⟩ ⟨"java/lang/Object", "getClass", "()Ljava/lang/Class;"⟩, .instanceMethod ⟨"java/lang/Object", "getClass", "()Ljava/lang/Class;"⟩, .native ⟨"java/lang/Object", "getClass", "()Ljava/lang/Class;"⟩, .methodLink RJ7 300 yJ7_copyOf_6403c, .static yJ7_copyOf_6403c, .initialized RJ7, .code yJx4a65c_grow_92f84 cJx4a65c_grow_92f84 4 (some (.array (.object "java/lang/Object"))), .methodLink RJx4a65c 79 Lib.Math.max.name, .classLink RJx4a65c 7 "java/lang/Object", .methodLink RJx4a65c 73 yJ8_newLength_cabcc, .static yJ8_newLength_cabcc, .methodLink RJx4a65c 66 yJ7_copyOf_1904c, .static yJ7_copyOf_1904c]
def GA16 : List Cond := [.code yJx4a65c_grow_d5877 cJx4a65c_grow_d5877 1 (some (.array (.object "java/lang/Object"))), .methodLink RJx4a65c 69 yJx4a65c_grow_92f84, .instanceMethod yJx4a65c_grow_92f84, .selects RJx4a65c yJx4a65c_grow_92f84 yJx4a65c_grow_92f84, .code yJx4a65c_add_72be8 cJx4a65c_add_72be8 4 none, .methodLink RJx4a65c 129 yJx4a65c_grow_d5877, .instanceMethod yJx4a65c_grow_d5877, .selects RJx4a65c yJx4a65c_grow_d5877 yJx4a65c_grow_d5877, .code yJx4a65c_add_9ea2d cJx4a65c_add_9ea2d 2 (some .boolean), .fieldLink RJx4a65c 63 "java/util/ArrayList" "modCount" "I", .sameField "java/util/ArrayList" "java/util/AbstractList" "modCount" "I", .methodLink RJx4a65c 131 yJx4a65c_add_72be8, .instanceMethod yJx4a65c_add_72be8, .selects RJx4a65c yJx4a65c_add_72be8 yJx4a65c_add_72be8, .code yX6_init cX6_init 7 none, .methodLink RX6 3 objectInit, .classLink RX6 9 RJx4a65c, .classLink RX6 28 RX3, .instantiable RX3 3, .fieldLink RX6 45 "Housestyle$Rule" "ownRank" "I", .methodLink RX6 11 yJx4a65c_init_da8c8, .methodLink RX6 30 yX3_init, .instanceMethod yX3_init, .methodLink RX6 33 yJx4a65c_add_9ea2d]
def GA17 : List Cond := [.instanceMethod yJx4a65c_add_9ea2d, .selects RJx4a65c yJx4a65c_add_9ea2d yJx4a65c_add_9ea2d, .code yX6_isPattern cX6_isPattern 4 (some .boolean), .methodLink RX6 55 yX3_isItem, .static yX3_isItem, .code yX9_isDigit cX9_isDigit 1 (some .boolean), .code yX6_isSuggestion cX6_isSuggestion 4 (some .boolean), .static yX9_isDigit, .code yX7_init cX7_init 1 none, .methodLink RX7 3 objectInit, .classLink RX7 9 RX5, .fieldLink RX7 14 "Housestyle$Text" "signs" "LHousestyle$Row;", .fieldLink RX7 20 "Housestyle$Text" "writers" "LHousestyle$Row;", .fieldLink RX7 23 "Housestyle$Text" "changed" "LHousestyle$Row;", .methodLink RX7 11 yX5_init, .methodLink RX7 26 yX5_add, .code yX7_paragraphAt cX7_paragraphAt 4 (some .int), .methodLink RX7 29 yX5_count, .methodLink RX7 33 yX5_get, .code yX7_insert cX7_insert 5 none, .methodLink RX7 37 yX7_paragraphAt, .instanceMethod yX7_paragraphAt, .selects RX7 yX7_paragraphAt yX7_paragraphAt, .initialized RX7]
def GA18 : List Cond := [.methodLink RX7 40 yX5_insert, .instanceMethod yX5_insert, .selects RX5 yX5_insert yX5_insert, .methodLink RX7 44 yX5_set, .code yX7_remove cX7_remove 4 (some .char), .methodLink RX7 47 yX5_remove, .code yX7_markAll cX7_markAll 3 none, .code yX7_clearChanged cX7_clearChanged 5 (some .int), .code yX8_init cX8_init 2 none, .methodLink RX8 3 objectInit, .classLink RX8 15 RX5, .fieldLink RX8 41 "Housestyle$Tokens" "isInQuote" "Z", .fieldLink RX8 45 "Housestyle$Tokens" "isAtBegin" "Z", .fieldLink RX8 48 "Housestyle$Tokens" "last" "I", .methodLink RX8 17 yX5_init, .code yX8_clear cX8_clear 1 none, .methodLink RX8 79 yX5_clear, .code yX8_beginParagraph cX8_beginParagraph 1 none, .code yX8_kindOf cX8_kindOf 1 (some .int), .code yX8_passSign cX8_passSign 2 none, .methodLink RX8 55 yX8_beginParagraph, .instanceMethod yX8_beginParagraph, .selects RX8 yX8_beginParagraph yX8_beginParagraph, .code yX8_beginToken cX8_beginToken 3 none]
def GA19 : List Cond := [.code yX8_lengthen cX8_lengthen 3 none, .methodLink RX8 94 Lib.Math.min.name, .methodLink RX8 91 yX5_set, .code yX8_read cX8_read 5 none, .methodLink RX8 52 yX8_clear, .instanceMethod yX8_clear, .selects RX8 yX8_clear yX8_clear, .methodLink RX8 66 yX8_kindOf, .static yX8_kindOf, .methodLink RX8 69 yX8_passSign, .instanceMethod yX8_passSign, .selects RX8 yX8_passSign yX8_passSign, .methodLink RX8 72 yX8_beginToken, .instanceMethod yX8_beginToken, .selects RX8 yX8_beginToken yX8_beginToken, .methodLink RX8 76 yX8_lengthen, .instanceMethod yX8_lengthen, .selects RX8 yX8_lengthen yX8_lengthen, .code yX9_init cX9_init 2 none, .methodLink RX9 1 objectInit, .classLink RX9 7 RX5, .fieldLink RX9 14 "Housestyle" "typed" "LHousestyle$Row;", .classLink RX9 18 RX7, .instantiable RX7 3]
def GA20 : List Cond := [.fieldLink RX9 21 "Housestyle" "text" "LHousestyle$Text;", .classLink RX9 25 RX8, .instantiable RX8 11, .fieldLink RX9 33 "Housestyle" "tokens" "LHousestyle$Tokens;", .classLink RX9 37 RX0, .instantiable RX0 3, .fieldLink RX9 40 "Housestyle" "book" "LHousestyle$Book;", .classLink RX9 44 RJx4a65c, .fieldLink RX9 47 "Housestyle" "desks" "Ljava/util/ArrayList;", .classLink RX9 51 RX1, .instantiable RX1 6, .classLink RX9 58 RX2, .instantiable RX2 6, .fieldLink RX9 63 "Housestyle" "found" "LHousestyle$Findings;", .fieldLink RX9 67 "Housestyle" "proposal" "LHousestyle$Row;", .fieldLink RX9 70 "Housestyle" "isRead" "Z", .fieldLink RX9 74 "Housestyle" "solvedDesk" "I", .methodLink RX9 11 yX5_init, .methodLink RX9 20 yX7_init, .instanceMethod yX7_init, .methodLink RX9 30 yX8_init, .instanceMethod yX8_init, .methodLink RX9 39 yX0_init, .instanceMethod yX0_init]
def GA21 : List Cond := [.methodLink RX9 46 yJx4a65c_init_da8c8, .methodLink RX9 53 yX1_init, .instanceMethod yX1_init, .methodLink RX9 54 yJx4a65c_add_9ea2d, .methodLink RX9 60 yX2_init, .instanceMethod yX2_init, .code yX9_isTypeable cX9_isTypeable 1 (some .boolean), .methodLink RX9 335 yX9_isDigit, .code yX9_type cX9_type 2 (some .int), .classLink RX9 82 "java/lang/IllegalArgumentException", .initialized "java/lang/IllegalArgumentException", .classLink RX9 93 "java/lang/IllegalStateException", .initialized "java/lang/IllegalStateException", .methodLink RX9 78 yX9_isTypeable, .static yX9_isTypeable, .methodLink RX9 89 yX5_count, .methodLink RX9 98 yX5_add, .code yX9_wipe cX9_wipe 2 (some .int), .methodLink RX9 100 yX5_clear, .code yX9_isTextSign cX9_isTextSign 1 (some .boolean), .code yX9_isWriter cX9_isWriter 1 (some .boolean), .code yX9_noteStale cX9_noteStale 1 none, .code yX9_putIn cX9_putIn 5 none, .classLink RX9 51 "Housestyle$Desk"]
def GA22 : List Cond := [.methodLink RX9 362 yX7_insert, .instanceMethod yX7_insert, .selects RX7 yX7_insert yX7_insert, .methodLink RX9 150 yJx4a65c_size_8abf5, .methodLink RX9 338 yJx4a65c_get_915e3, .methodLink RX9 365 yX1_followPut, .instanceMethod yX1_followPut, .selects RX1 yX1_followPut yX1_followPut, .methodLink RX9 368 yX9_noteStale, .instanceMethod yX9_noteStale, .selects RX9 yX9_noteStale yX9_noteStale, .code yX9_put cX9_put 4 (some .int), .classLink RX9 103 "java/lang/IndexOutOfBoundsException", .initialized "java/lang/IndexOutOfBoundsException", .methodLink RX9 108 yX9_isTextSign, .static yX9_isTextSign, .methodLink RX9 111 yX9_isWriter, .static yX9_isWriter, .methodLink RX9 119 yX9_putIn, .instanceMethod yX9_putIn, .selects RX9 yX9_putIn yX9_putIn, .code yX9_needPlace cX9_needPlace 2 none, .code yX9_takeOut cX9_takeOut 4 (some .char), .methodLink RX9 371 yX7_remove]
def GA23 : List Cond := [.instanceMethod yX7_remove, .selects RX7 yX7_remove yX7_remove, .methodLink RX9 374 yX1_followTake, .instanceMethod yX1_followTake, .selects RX1 yX1_followTake yX1_followTake, .code yX9_take cX9_take 2 (some .char), .methodLink RX9 123 yX9_needPlace, .instanceMethod yX9_needPlace, .selects RX9 yX9_needPlace yX9_needPlace, .methodLink RX9 126 yX9_takeOut, .instanceMethod yX9_takeOut, .selects RX9 yX9_takeOut yX9_takeOut, .code yX9_at cX9_at 2 (some .char), .code yX9_length cX9_length 1 (some .int), .code yX9_noteTold cX9_noteTold 1 none, .methodLink RX9 377 yX7_markAll, .instanceMethod yX7_markAll, .selects RX7 yX7_markAll yX7_markAll, .code yX9_rule cX9_rule 5 (some .int), .classLink RX9 142 "java/lang/UnsupportedOperationException", .initialized "java/lang/UnsupportedOperationException", .classLink RX9 137 RX6, .instantiable RX6 6, .methodLink RX9 136 yX6_isPattern]
def GA24 : List Cond := [.static yX6_isPattern, .methodLink RX9 155 yX6_init, .instanceMethod yX6_init, .methodLink RX9 158 yX9_noteTold, .instanceMethod yX9_noteTold, .selects RX9 yX9_noteTold yX9_noteTold, .code yX9_ruleAt cX9_ruleAt 2 (some (.object "Housestyle$Rule")), .classLink RX9 137 "Housestyle$Rule", .code yX9_except cX9_except 3 (some .int), .methodLink RX9 161 yX9_ruleAt, .instanceMethod yX9_ruleAt, .selects RX9 yX9_ruleAt yX9_ruleAt, .methodLink RX9 165 yX9_isWord, .methodLink RX9 176 yX5_part, .code yX9_suggest cX9_suggest 3 (some .int), .methodLink RX9 180 yX6_isSuggestion, .static yX6_isSuggestion, .code yX9_pair cX9_pair 3 (some .int), .classLink RX9 195 RX4, .instantiable RX4 2, .methodLink RX9 190 yX5_placeOf, .instanceMethod yX5_placeOf, .selects RX5 yX5_placeOf yX5_placeOf, .methodLink RX9 197 yX4_init]
def GA25 : List Cond := [.instanceMethod yX4_init, .methodLink RX9 206 yX5_isLike, .instanceMethod yX5_isLike, .selects RX5 yX5_isLike yX5_isLike, .code yX9_deskAt cX9_deskAt 2 (some (.object "Housestyle$Desk")), .code yX9_noteSettings cX9_noteSettings 2 none, .code yX9_use cX9_use 6 (some .boolean), .methodLink RX9 216 yX9_deskAt, .instanceMethod yX9_deskAt, .selects RX9 yX9_deskAt yX9_deskAt, .methodLink RX9 220 yX1_uses, .instanceMethod yX1_uses, .selects RX1 yX1_uses yX1_uses, .methodLink RX9 223 yX1_setUse, .instanceMethod yX1_setUse, .selects RX1 yX1_setUse yX1_setUse, .methodLink RX9 227 yX9_noteSettings, .instanceMethod yX9_noteSettings, .selects RX9 yX9_noteSettings yX9_noteSettings, .code yX9_rank cX9_rank 6 (some .int), .methodLink RX9 232 yX0_rankAt, .methodLink RX9 239 yX5_set, .code yX9_limit cX9_limit 5 (some .int), .code yX9_findFor cX9_findFor 3 (some (.object "Housestyle$Desk"))]
def GA26 : List Cond := [.methodLink RX9 294 yX8_read, .instanceMethod yX8_read, .selects RX8 yX8_read yX8_read, .methodLink RX9 354 yX0_look, .instanceMethod yX0_look, .selects RX0 yX0_look yX0_look, .methodLink RX9 358 yX2_solve, .instanceMethod yX2_solve, .selects RX2 yX2_solve yX2_solve, .code yX9_findings cX9_findings 2 (some .int), .methodLink RX9 248 yX9_findFor, .instanceMethod yX9_findFor, .selects RX9 yX9_findFor yX9_findFor, .methodLink RX9 251 yX2_count, .code yX9_needFinding cX9_needFinding 2 none, .classLink RX9 275 "java/util/NoSuchElementException", .initialized "java/util/NoSuchElementException", .code yX9_of cX9_of 6 (some .int), .methodLink RX9 254 yX9_needFinding, .instanceMethod yX9_needFinding, .selects RX9 yX9_needFinding yX9_needFinding, .methodLink RX9 257 yX2_ruleOf, .instanceMethod yX2_ruleOf, .selects RX2 yX2_ruleOf yX2_ruleOf]
def GA27 : List Cond := [.methodLink RX9 260 yX2_fromOf, .methodLink RX9 263 yX2_lengthOf, .methodLink RX9 269 yX0_suggestionsOf, .instanceMethod yX0_suggestionsOf, .selects RX0 yX0_suggestionsOf yX0_suggestionsOf, .code yX9_propose cX9_propose 4 none, .methodLink RX9 347 yX2_tokenOf, .instanceMethod yX2_tokenOf, .selects RX2 yX2_tokenOf yX2_tokenOf, .methodLink RX9 350 yX0_writeSuggestion, .instanceMethod yX0_writeSuggestion, .selects RX0 yX0_writeSuggestion yX0_writeSuggestion, .code yX9_size cX9_size 4 (some .int), .methodLink RX9 272 yX9_propose, .instanceMethod yX9_propose, .selects RX9 yX9_propose yX9_propose, .code yX9_sign cX9_sign 5 (some .char), .code yX9_apply cX9_apply 8 (some .int), .code yX9_ignore cX9_ignore 4 (some .int), .methodLink RX9 282 yX1_ignoredCount, .methodLink RX9 287 yX1_addIgnored, .instanceMethod yX1_addIgnored, .selects RX1 yX1_addIgnored yX1_addIgnored, .code yX9_ignored cX9_ignored 2 (some .int)]
def GA28 : List Cond := [.code yX9_heed cX9_heed 4 (some .int), .methodLink RX9 291 yX1_clearIgnored, .instanceMethod yX1_clearIgnored, .selects RX1 yX1_clearIgnored yX1_clearIgnored, .code yX9_tokens cX9_tokens 4 (some .int), .methodLink RX9 297 yX8_count, .methodLink RX9 298 yX8_isQuoted, .code yX9_paragraphs cX9_paragraphs 1 (some .int), .code yX9_check cX9_check 2 (some .int), .methodLink RX9 304 yX7_clearChanged, .instanceMethod yX7_clearChanged, .selects RX7 yX7_clearChanged yX7_clearChanged, .code yX9_byRule cX9_byRule 5 (some .int), .code yX9_byWriter cX9_byWriter 5 (some .int), .code yX9_checksum cX9_checksum 4 (some .long), .constantLong RX9 309 (7), .constantLong RX9 311 (31), .code yX9_foundShare cX9_foundShare 5 (some .float), .classLink RX9 313 "java/lang/ArithmeticException", .initialized "java/lang/ArithmeticException", .code yX9_meanWord cX9_meanWord 4 (some .double), .methodLink RX9 318 yX8_isWord, .methodLink RX9 320 yX8_lengthOf, .code yX9_isSound cX9_isSound 4 (some .boolean)]
def GA29 : List Cond := [.methodLink RX9 321 yX2_shareNoSign, .instanceMethod yX2_shareNoSign, .selects RX2 yX2_shareNoSign yX2_shareNoSign, .methodLink RX9 325 yX2_accountForAll, .instanceMethod yX2_accountForAll, .selects RX2 yX2_accountForAll yX2_accountForAll, .methodLink RX9 329 yX1_ignoredLieWithin, .instanceMethod yX1_ignoredLieWithin, .selects RX1 yX1_ignoredLieWithin yX1_ignoredLieWithin, .code yX10_init cX10_init 2 none, .methodLink RX10 1 objectInit, .arrayClass .char, .fieldLink RX10 7 "HousestyleModel" "text" "[C", .fieldLink RX10 13 "HousestyleModel" "writers" "[I", .fieldLink RX10 17 "HousestyleModel" "typed" "[C", .fieldLink RX10 20 "HousestyleModel" "items" "[I", .fieldLink RX10 23 "HousestyleModel" "letters" "[C", .fieldLink RX10 26 "HousestyleModel" "sizes" "[I", .fieldLink RX10 29 "HousestyleModel" "sorts" "[I", .fieldLink RX10 32 "HousestyleModel" "conditions" "[C", .arrayClass .boolean, .fieldLink RX10 35 "HousestyleModel" "inQuotes" "[Z", .fieldLink RX10 39 "HousestyleModel" "ranks" "[I", .fieldLink RX10 42 "HousestyleModel" "exceptions" "[I"]
def GA30 : List Cond := [.fieldLink RX10 45 "HousestyleModel" "excepted" "[C", .fieldLink RX10 48 "HousestyleModel" "exceptedSizes" "[I", .fieldLink RX10 51 "HousestyleModel" "suggestions" "[I", .fieldLink RX10 54 "HousestyleModel" "suggested" "[C", .fieldLink RX10 57 "HousestyleModel" "suggestedSizes" "[I", .fieldLink RX10 60 "HousestyleModel" "paired" "[C", .fieldLink RX10 63 "HousestyleModel" "pairedSizes" "[I", .fieldLink RX10 66 "HousestyleModel" "isLeftOut" "[Z", .fieldLink RX10 69 "HousestyleModel" "deskRanks" "[I", .fieldLink RX10 72 "HousestyleModel" "limits" "[I", .fieldLink RX10 75 "HousestyleModel" "ignored" "[I", .fieldLink RX10 78 "HousestyleModel" "ignoredRules" "[I", .fieldLink RX10 81 "HousestyleModel" "ignoredFrom" "[I", .fieldLink RX10 84 "HousestyleModel" "ignoredTo" "[I", .fieldLink RX10 87 "HousestyleModel" "hasChanged" "[Z", .fieldLink RX10 90 "HousestyleModel" "from" "[I", .fieldLink RX10 93 "HousestyleModel" "to" "[I", .fieldLink RX10 96 "HousestyleModel" "isWord" "[Z", .fieldLink RX10 99 "HousestyleModel" "paragraph" "[I", .fieldLink RX10 102 "HousestyleModel" "isQuoted" "[Z", .fieldLink RX10 105 "HousestyleModel" "foundToken" "[I", .fieldLink RX10 108 "HousestyleModel" "foundTo" "[I", .fieldLink RX10 111 "HousestyleModel" "foundRule" "[I", .fieldLink RX10 114 "HousestyleModel" "foundRank" "[I"]
def GA31 : List Cond := [.fieldLink RX10 117 "HousestyleModel" "takes" "[I", .fieldLink RX10 120 "HousestyleModel" "out" "[C", .code yX10_thrown cX10_thrown 1 (some .int), .fieldLink RX10 123 "HousestyleModel" "thrown" "I", .code yX10_in cX10_in 3 (some .boolean), .code yX10_isLetter cX10_isLetter 1 (some .boolean), .code yX10_isDigit cX10_isDigit 1 (some .boolean), .code yX10_isDesk cX10_isDesk 1 (some .boolean), .methodLink RX10 127 yX10_in, .static yX10_in, .initialized RX10, .code yX10_noDesk cX10_noDesk 2 (some .boolean), .methodLink RX10 131 yX10_isDesk, .static yX10_isDesk, .code yX10_noRule cX10_noRule 2 (some .boolean), .fieldLink RX10 135 "HousestyleModel" "rules" "I", .code yX10_type cX10_type 3 (some .int), .fieldLink RX10 145 "HousestyleModel" "typedSize" "I", .methodLink RX10 138 yX10_isLetter, .static yX10_isLetter, .methodLink RX10 142 yX10_isDigit, .static yX10_isDigit, .code yX10_wipe cX10_wipe 2 (some .int), .code yX10_lettersFrom cX10_lettersFrom 3 (some .int)]
def GA32 : List Cond := [.code yX10_endsAhead cX10_endsAhead 4 (some .int), .code yX10_paragraphsNow cX10_paragraphsNow 1 (some .int), .fieldLink RX10 156 "HousestyleModel" "length" "I", .methodLink RX10 159 yX10_endsAhead, .instanceMethod yX10_endsAhead, .selects RX10 yX10_endsAhead yX10_endsAhead, .code yX10_marks cX10_marks 3 none, .methodLink RX10 148 yX10_paragraphsNow, .instanceMethod yX10_paragraphsNow, .selects RX10 yX10_paragraphsNow yX10_paragraphsNow, .code yX10_marksAll cX10_marksAll 2 none, .methodLink RX10 152 yX10_marks, .instanceMethod yX10_marks, .selects RX10 yX10_marks yX10_marks, .code yX10_follows cX10_follows 12 none, .code yX10_puts cX10_puts 9 none, .methodLink RX10 163 yX10_follows, .instanceMethod yX10_follows, .selects RX10 yX10_follows yX10_follows, .code yX10_takesOut cX10_takesOut 8 none, .code yX10_put cX10_put 5 (some .int), .methodLink RX10 167 yX10_puts, .instanceMethod yX10_puts, .selects RX10 yX10_puts yX10_puts]
def GA33 : List Cond := [.code yX10_take cX10_take 3 (some .char), .methodLink RX10 171 yX10_takesOut, .instanceMethod yX10_takesOut, .selects RX10 yX10_takesOut yX10_takesOut, .code yX10_at cX10_at 2 (some .char), .code yX10_length cX10_length 1 (some .int), .code yX10_isPattern cX10_isPattern 11 (some .boolean), .methodLink RX10 174 yX10_lettersFrom, .instanceMethod yX10_lettersFrom, .selects RX10 yX10_lettersFrom yX10_lettersFrom, .code yX10_rule cX10_rule 5 (some .int), .methodLink RX10 177 yX10_isPattern, .instanceMethod yX10_isPattern, .selects RX10 yX10_isPattern yX10_isPattern, .methodLink RX10 181 yX10_marksAll, .instanceMethod yX10_marksAll, .selects RX10 yX10_marksAll yX10_marksAll, .code yX10_except cX10_except 5 (some .int), .methodLink RX10 184 yX10_noRule, .instanceMethod yX10_noRule, .selects RX10 yX10_noRule yX10_noRule, .code yX10_suggest cX10_suggest 6 (some .int), .code yX10_pair cX10_pair 6 (some .int), .fieldLink RX10 187 "HousestyleModel" "pairs" "I"]
def GA34 : List Cond := [.code yX10_use cX10_use 5 (some .boolean), .code yX10_rankAt cX10_rankAt 4 (some .int), .code yX10_rank cX10_rank 5 (some .int), .methodLink RX10 190 yX10_rankAt, .instanceMethod yX10_rankAt, .selects RX10 yX10_rankAt yX10_rankAt, .code yX10_limit cX10_limit 4 (some .int), .code yX10_scan cX10_scan 7 none, .fieldLink RX10 194 "HousestyleModel" "tokens" "I", .code yX10_isAnyQuoted cX10_isAnyQuoted 5 (some .boolean), .code yX10_isFirstOfSentence cX10_isFirstOfSentence 4 (some .boolean), .code yX10_fits cX10_fits 6 (some .boolean), .code yX10_isAt cX10_isAt 5 (some .boolean), .methodLink RX10 197 yX10_fits, .instanceMethod yX10_fits, .selects RX10 yX10_fits yX10_fits, .code yX10_isExcepted cX10_isExcepted 7 (some .boolean), .code yX10_valueOf cX10_valueOf 4 (some .int), .code yX10_wordOf cX10_wordOf 7 (some .int), .code yX10_isIgnored cX10_isIgnored 7 (some .boolean), .code yX10_finds cX10_finds 6 none, .fieldLink RX10 205 "HousestyleModel" "found" "I", .methodLink RX10 201 yX10_isIgnored, .instanceMethod yX10_isIgnored]
def GA35 : List Cond := [.selects RX10 yX10_isIgnored yX10_isIgnored, .code yX10_findsAll cX10_findsAll 6 none, .methodLink RX10 208 yX10_scan, .instanceMethod yX10_scan, .selects RX10 yX10_scan yX10_scan, .methodLink RX10 211 yX10_isAt, .instanceMethod yX10_isAt, .selects RX10 yX10_isAt yX10_isAt, .methodLink RX10 214 yX10_isFirstOfSentence, .instanceMethod yX10_isFirstOfSentence, .selects RX10 yX10_isFirstOfSentence yX10_isFirstOfSentence, .methodLink RX10 217 yX10_isAnyQuoted, .instanceMethod yX10_isAnyQuoted, .selects RX10 yX10_isAnyQuoted yX10_isAnyQuoted, .methodLink RX10 220 yX10_isExcepted, .instanceMethod yX10_isExcepted, .selects RX10 yX10_isExcepted yX10_isExcepted, .methodLink RX10 223 yX10_finds, .instanceMethod yX10_finds, .selects RX10 yX10_finds yX10_finds, .methodLink RX10 227 yX10_valueOf, .instanceMethod yX10_valueOf, .selects RX10 yX10_valueOf yX10_valueOf, .methodLink RX10 230 yX10_wordOf]
def GA36 : List Cond := [.instanceMethod yX10_wordOf, .selects RX10 yX10_wordOf yX10_wordOf, .code yX10_placeOf cX10_placeOf 2 (some .int), .code yX10_isAhead cX10_isAhead 3 (some .boolean), .methodLink RX10 233 yX10_placeOf, .instanceMethod yX10_placeOf, .selects RX10 yX10_placeOf yX10_placeOf, .code yX10_isFree cX10_isFree 4 (some .boolean), .fieldLink RX10 236 "HousestyleModel" "taken" "I", .code yX10_look cX10_look 5 none, .methodLink RX10 239 yX10_findsAll, .instanceMethod yX10_findsAll, .selects RX10 yX10_findsAll yX10_findsAll, .methodLink RX10 242 yX10_isFree, .instanceMethod yX10_isFree, .selects RX10 yX10_isFree yX10_isFree, .methodLink RX10 245 yX10_isAhead, .instanceMethod yX10_isAhead, .selects RX10 yX10_isAhead yX10_isAhead, .code yX10_findings cX10_findings 2 (some .int), .methodLink RX10 248 yX10_noDesk, .instanceMethod yX10_noDesk, .selects RX10 yX10_noDesk yX10_noDesk, .methodLink RX10 251 yX10_look]
def GA37 : List Cond := [.instanceMethod yX10_look, .selects RX10 yX10_look yX10_look, .code yX10_suggestionsOf cX10_suggestionsOf 3 (some .int), .code yX10_isThing cX10_isThing 1 (some .boolean), .code yX10_of cX10_of 6 (some .int), .methodLink RX10 254 yX10_isThing, .static yX10_isThing, .methodLink RX10 257 yX10_suggestionsOf, .instanceMethod yX10_suggestionsOf, .selects RX10 yX10_suggestionsOf yX10_suggestionsOf, .code yX10_outs cX10_outs 2 none, .fieldLink RX10 260 "HousestyleModel" "outSize" "I", .code yX10_star cX10_star 8 none, .methodLink RX10 263 yX10_outs, .instanceMethod yX10_outs, .selects RX10 yX10_outs yX10_outs, .code yX10_isMade cX10_isMade 8 (some .boolean), .methodLink RX10 267 yX10_star, .instanceMethod yX10_star, .selects RX10 yX10_star yX10_star, .code yX10_size cX10_size 4 (some .int), .methodLink RX10 270 yX10_isMade, .instanceMethod yX10_isMade, .selects RX10 yX10_isMade yX10_isMade]
def GA38 : List Cond := [.code yX10_sign cX10_sign 5 (some .char), .code yX10_apply cX10_apply 8 (some .int), .code yX10_ignore cX10_ignore 4 (some .int), .code yX10_ignored cX10_ignored 2 (some .int), .code yX10_heed cX10_heed 3 (some .int), .code yX10_tokens cX10_tokens 4 (some .int), .code yX10_paragraphs cX10_paragraphs 1 (some .int), .code yX10_check cX10_check 4 (some .int), .code yX10_byRule cX10_byRule 5 (some .int), .code yX10_byWriter cX10_byWriter 5 (some .int), .code yX10_checksum cX10_checksum 4 (some .long), .constantLong RX10 273 (7), .constantLong RX10 275 (31), .code yX10_foundShare cX10_foundShare 4 (some .float), .code yX10_meanWord cX10_meanWord 4 (some .double), .code yX10_isSound cX10_isSound 1 (some .boolean), .code yJx00060_init_a7421 cJx00060_init_a7421 2 none, .code yJ9_max_7cf53 cJ9_max_7cf53 2 (some .int), .code yJ9_min_7cf53 cJ9_min_7cf53 2 (some .int), .codeWith yL_type cL_type 4 (some .int) [(0, 9, 12, 13), (0, 9, 15, 15)], .classLink RL 13 "java/lang/IllegalArgumentException", .classLink RL 15 "java/lang/IllegalStateException", .methodLink RL 7 yX9_type, .instanceMethod yX9_type]
def GA39 : List Cond := [.selects RX9 yX9_type yX9_type, .codeWith yL_put cL_put 6 (some .int) [(0, 12, 15, 21), (0, 12, 19, 13), (0, 12, 23, 15)], .classLink RL 21 "java/lang/IndexOutOfBoundsException", .methodLink RL 17 yX9_put, .instanceMethod yX9_put, .selects RX9 yX9_put yX9_put, .codeWith yL_take cL_take 4 (some .int) [(0, 9, 12, 21)], .methodLink RL 23 yX9_take, .instanceMethod yX9_take, .selects RX9 yX9_take yX9_take, .codeWith yL_at cL_at 4 (some .int) [(0, 9, 12, 21)], .methodLink RL 27 yX9_at, .instanceMethod yX9_at, .selects RX9 yX9_at yX9_at, .codeWith yL_rule cL_rule 6 (some .int) [(0, 12, 15, 13), (0, 12, 19, 34), (0, 12, 23, 15)], .classLink RL 34 "java/lang/UnsupportedOperationException", .methodLink RL 30 yX9_rule, .instanceMethod yX9_rule, .selects RX9 yX9_rule yX9_rule, .codeWith yL_except cL_except 4 (some .int) [(0, 9, 12, 21), (0, 9, 15, 34), (0, 9, 18, 15)], .methodLink RL 36 yX9_except, .instanceMethod yX9_except, .selects RX9 yX9_except yX9_except, .codeWith yL_suggest cL_suggest 4 (some .int) [(0, 9, 12, 21), (0, 9, 15, 34), (0, 9, 18, 15)]]
def GA40 : List Cond := [.methodLink RL 40 yX9_suggest, .instanceMethod yX9_suggest, .selects RX9 yX9_suggest yX9_suggest, .codeWith yL_pair cL_pair 3 (some .int) [(0, 8, 11, 34), (0, 8, 14, 15)], .methodLink RL 43 yX9_pair, .instanceMethod yX9_pair, .selects RX9 yX9_pair yX9_pair, .codeWith yL_use cL_use 6 (some .int) [(0, 19, 22, 21), (0, 19, 26, 13)], .methodLink RL 47 yX9_use, .instanceMethod yX9_use, .selects RX9 yX9_use yX9_use, .codeWith yL_rank cL_rank 6 (some .int) [(0, 12, 15, 21), (0, 12, 19, 13)], .methodLink RL 51 yX9_rank, .instanceMethod yX9_rank, .selects RX9 yX9_rank yX9_rank, .codeWith yL_limit cL_limit 5 (some .int) [(0, 10, 13, 13)], .methodLink RL 55 yX9_limit, .instanceMethod yX9_limit, .selects RX9 yX9_limit yX9_limit, .codeWith yL_findings cL_findings 4 (some .int) [(0, 9, 12, 13)], .methodLink RL 59 yX9_findings, .instanceMethod yX9_findings, .selects RX9 yX9_findings yX9_findings, .codeWith yL_of cL_of 6 (some .int) [(0, 12, 15, 13), (0, 12, 19, 66)]]
def GA41 : List Cond := [.classLink RL 66 "java/util/NoSuchElementException", .methodLink RL 62 yX9_of, .instanceMethod yX9_of, .selects RX9 yX9_of yX9_of, .codeWith yL_size cL_size 6 (some .int) [(0, 12, 15, 13), (0, 12, 19, 66)], .methodLink RL 68 yX9_size, .instanceMethod yX9_size, .selects RX9 yX9_size yX9_size, .codeWith yL_sign cL_sign 7 (some .int) [(0, 14, 17, 13), (0, 14, 21, 66)], .methodLink RL 71 yX9_sign, .instanceMethod yX9_sign, .selects RX9 yX9_sign yX9_sign, .codeWith yL_apply cL_apply 7 (some .int) [(0, 14, 17, 13), (0, 14, 21, 66), (0, 14, 25, 15)], .methodLink RL 75 yX9_apply, .instanceMethod yX9_apply, .selects RX9 yX9_apply yX9_apply, .codeWith yL_ignore cL_ignore 5 (some .int) [(0, 10, 13, 13), (0, 10, 17, 66), (0, 10, 21, 15)], .methodLink RL 79 yX9_ignore, .instanceMethod yX9_ignore, .selects RX9 yX9_ignore yX9_ignore, .codeWith yL_ignored cL_ignored 4 (some .int) [(0, 9, 12, 13)], .methodLink RL 82 yX9_ignored, .instanceMethod yX9_ignored, .selects RX9 yX9_ignored yX9_ignored]
def GA42 : List Cond := [.codeWith yL_heed cL_heed 4 (some .int) [(0, 9, 12, 13)], .methodLink RL 85 yX9_heed, .instanceMethod yX9_heed, .selects RX9 yX9_heed yX9_heed, .codeWith yL_check cL_check 4 (some .int) [(0, 9, 12, 13)], .methodLink RL 88 yX9_check, .instanceMethod yX9_check, .selects RX9 yX9_check yX9_check, .codeWith yL_byRule cL_byRule 5 (some .int) [(0, 10, 13, 13)], .methodLink RL 91 yX9_byRule, .instanceMethod yX9_byRule, .selects RX9 yX9_byRule yX9_byRule, .codeWith yL_byWriter cL_byWriter 5 (some .int) [(0, 10, 13, 13)], .methodLink RL 94 yX9_byWriter, .instanceMethod yX9_byWriter, .selects RX9 yX9_byWriter yX9_byWriter, .codeWith yL_foundShare cL_foundShare 4 (some .int) [(0, 9, 12, 13), (0, 9, 15, 101)], .classLink RL 101 "java/lang/ArithmeticException", .methodLink RL 97 yX9_foundShare, .instanceMethod yX9_foundShare, .selects RX9 yX9_foundShare yX9_foundShare, .codeWith yL_meanWord cL_meanWord 3 (some .int) [(0, 7, 10, 101)], .methodLink RL 103 yX9_meanWord, .instanceMethod yX9_meanWord]
def GA43 : List Cond := [.selects RX9 yX9_meanWord yX9_meanWord, .classLink RL 8 RX9, .instantiable RX9 9, .classLink RL 108 RX10, .instantiable RX10 46, .arrayClass .long, .arrayClass .double, .methodLink RL 107 yX9_init, .instanceMethod yX9_init, .methodLink RL 110 yX10_init, .instanceMethod yX10_init, .methodLink RL 111 yL_type, .static yL_type, .initialized RL, .methodLink RL 116 yX10_type, .instanceMethod yX10_type, .selects RX10 yX10_type yX10_type, .methodLink RL 117 yX10_thrown, .instanceMethod yX10_thrown, .selects RX10 yX10_thrown yX10_thrown, .methodLink RL 120 yX9_wipe, .instanceMethod yX9_wipe, .selects RX9 yX9_wipe yX9_wipe, .methodLink RL 123 yX10_wipe]
def GA44 : List Cond := [.instanceMethod yX10_wipe, .selects RX10 yX10_wipe yX10_wipe, .methodLink RL 124 yL_put, .static yL_put, .methodLink RL 127 yX10_put, .instanceMethod yX10_put, .selects RX10 yX10_put yX10_put, .methodLink RL 128 yL_take, .static yL_take, .methodLink RL 131 yX10_take, .instanceMethod yX10_take, .selects RX10 yX10_take yX10_take, .methodLink RL 132 yL_at, .static yL_at, .methodLink RL 134 yX10_at, .instanceMethod yX10_at, .selects RX10 yX10_at yX10_at, .methodLink RL 135 yX9_length, .instanceMethod yX9_length, .selects RX9 yX9_length yX9_length, .methodLink RL 138 yX10_length, .instanceMethod yX10_length, .selects RX10 yX10_length yX10_length, .methodLink RL 139 yL_rule]
def GA45 : List Cond := [.static yL_rule, .methodLink RL 142 yX10_rule, .instanceMethod yX10_rule, .selects RX10 yX10_rule yX10_rule, .methodLink RL 143 yL_except, .static yL_except, .methodLink RL 145 yX10_except, .instanceMethod yX10_except, .selects RX10 yX10_except yX10_except, .methodLink RL 146 yL_suggest, .static yL_suggest, .methodLink RL 148 yX10_suggest, .instanceMethod yX10_suggest, .selects RX10 yX10_suggest yX10_suggest, .methodLink RL 149 yL_pair, .static yL_pair, .methodLink RL 152 yX10_pair, .instanceMethod yX10_pair, .selects RX10 yX10_pair yX10_pair, .methodLink RL 153 yL_use, .static yL_use, .methodLink RL 156 yX10_use, .instanceMethod yX10_use, .selects RX10 yX10_use yX10_use]
def GA46 : List Cond := [.methodLink RL 157 yL_rank, .static yL_rank, .methodLink RL 160 yX10_rank, .instanceMethod yX10_rank, .selects RX10 yX10_rank yX10_rank, .methodLink RL 161 yL_limit, .static yL_limit, .methodLink RL 164 yX10_limit, .instanceMethod yX10_limit, .selects RX10 yX10_limit yX10_limit, .methodLink RL 165 yL_findings, .static yL_findings, .methodLink RL 167 yX10_findings, .instanceMethod yX10_findings, .selects RX10 yX10_findings yX10_findings, .methodLink RL 168 yL_of, .static yL_of, .methodLink RL 171 yX10_of, .instanceMethod yX10_of, .selects RX10 yX10_of yX10_of, .methodLink RL 172 yL_size, .static yL_size, .methodLink RL 174 yX10_size, .instanceMethod yX10_size]
def GA47 : List Cond := [.selects RX10 yX10_size yX10_size, .methodLink RL 175 yL_sign, .static yL_sign, .methodLink RL 178 yX10_sign, .instanceMethod yX10_sign, .selects RX10 yX10_sign yX10_sign, .methodLink RL 179 yL_apply, .static yL_apply, .methodLink RL 181 yX10_apply, .instanceMethod yX10_apply, .selects RX10 yX10_apply yX10_apply, .methodLink RL 182 yL_ignore, .static yL_ignore, .methodLink RL 184 yX10_ignore, .instanceMethod yX10_ignore, .selects RX10 yX10_ignore yX10_ignore, .methodLink RL 185 yL_ignored, .static yL_ignored, .methodLink RL 187 yX10_ignored, .instanceMethod yX10_ignored, .selects RX10 yX10_ignored yX10_ignored, .methodLink RL 188 yL_heed, .static yL_heed, .methodLink RL 190 yX10_heed]
def GA48 : List Cond := [.instanceMethod yX10_heed, .selects RX10 yX10_heed yX10_heed, .methodLink RL 191 yX9_tokens, .instanceMethod yX9_tokens, .selects RX9 yX9_tokens yX9_tokens, .methodLink RL 195 yX10_tokens, .instanceMethod yX10_tokens, .selects RX10 yX10_tokens yX10_tokens, .methodLink RL 196 yX9_paragraphs, .instanceMethod yX9_paragraphs, .selects RX9 yX9_paragraphs yX9_paragraphs, .methodLink RL 199 yX10_paragraphs, .instanceMethod yX10_paragraphs, .selects RX10 yX10_paragraphs yX10_paragraphs, .methodLink RL 200 yL_check, .static yL_check, .methodLink RL 202 yX10_check, .instanceMethod yX10_check, .selects RX10 yX10_check yX10_check, .methodLink RL 203 yL_byRule, .static yL_byRule, .methodLink RL 205 yX10_byRule, .instanceMethod yX10_byRule, .selects RX10 yX10_byRule yX10_byRule]
def GA49 : List Cond := [.methodLink RL 206 yL_byWriter, .static yL_byWriter, .methodLink RL 208 yX10_byWriter, .instanceMethod yX10_byWriter, .selects RX10 yX10_byWriter yX10_byWriter, .methodLink RL 209 yX9_checksum, .instanceMethod yX9_checksum, .selects RX9 yX9_checksum yX9_checksum, .methodLink RL 213 yX10_checksum, .instanceMethod yX10_checksum, .selects RX10 yX10_checksum yX10_checksum, .methodLink RL 214 yL_foundShare, .static yL_foundShare, .methodLink RL 217 yX10_foundShare, .instanceMethod yX10_foundShare, .selects RX10 yX10_foundShare yX10_foundShare, .methodLink RL 218 yL_meanWord, .static yL_meanWord, .methodLink RL 221 yX10_meanWord, .instanceMethod yX10_meanWord, .selects RX10 yX10_meanWord yX10_meanWord, .methodLink RL 222 yX9_isSound, .instanceMethod yX9_isSound, .selects RX9 yX9_isSound yX9_isSound]
def GA50 : List Cond := [.methodLink RL 226 yX10_isSound, .instanceMethod yX10_isSound, .selects RX10 yX10_isSound yX10_isSound]
def GT0 : List Cond := (vx_atS RX9 86 "java/lang/IllegalArgumentException" ["java/lang/RuntimeException", "java/lang/Exception"]).filter goodWord
def GT1 : List Cond := (vx_atS RX9 97 "java/lang/IllegalStateException" ["java/lang/RuntimeException", "java/lang/Exception"]).filter goodWord
def GT2 : List Cond := (vx_atS RX9 107 "java/lang/IndexOutOfBoundsException" ["java/lang/RuntimeException", "java/lang/Exception"]).filter goodWord
def GT3 : List Cond := (vx_atS RX9 146 "java/lang/UnsupportedOperationException" ["java/lang/RuntimeException", "java/lang/Exception"]).filter goodWord
def rx13 : ByteArray := .mk #[0x2a, 0x2b, 0xb7, 0x00, 0x0d, 0xb1]
/-- the words of a constructor that hands its text on to its super's, whose link stands at ix, and of those above it -/
def chX (X : String) (ix : Nat) (rx : ByteArray) : List String → List Cond
  | [] => Bundle.passSAtoms X Bundle.tN ix rx
  | Y :: r => Bundle.passSAtoms X Y ix rx ++ Bundle.chainSAtoms Y r
/-- the words of a throw of such a class -/
def vx_owX (own : String) (ic : Nat) (X : String) (ix : Nat) (rx : ByteArray) (names : List String) : List Cond :=
  Bundle.throwableAtoms ++ Bundle.throwableSAtoms ++ chX X ix rx names ++
  [.isRef (.static Bundle.tN "UNASSIGNED_STACK" Bundle.steD), .isRef (.static Bundle.tN "SUPPRESSED_SENTINEL" Bundle.listD), .methodLink own ic (Bundle.initS X), .instantiable X 6, .castable X X, .selects X Bundle.tFill0 Bundle.tFill0, .selects X Bundle.tFill Bundle.tFill,
   .fieldLink Bundle.tN 198 Bundle.tN "backtrace" "Ljava/lang/Object;", .lays Bundle.tN Bundle.tN "backtrace" "Ljava/lang/Object;", .lays X Bundle.tN "backtrace" "Ljava/lang/Object;",
   .lays X Bundle.tN "cause" "Ljava/lang/Throwable;", .lays X Bundle.tN "stackTrace" Bundle.steD, .lays X Bundle.tN "suppressedExceptions" Bundle.listD, .lays X Bundle.tN "detailMessage" "Ljava/lang/String;"]
/-- .. the statics' words left out -/
def vx_atSX (own : String) (ic : Nat) (X : String) (ix : Nat) (rx : ByteArray) (names : List String) : List Cond := (vx_owX own ic X ix rx names).filter vx_no
def GT4 : List Cond := (vx_atSX RX9 277 "java/util/NoSuchElementException" 13 rx13 ["java/lang/RuntimeException", "java/lang/Exception"]).filter goodWord
def GT5 : List Cond := (vx_atS RX9 317 "java/lang/ArithmeticException" ["java/lang/RuntimeException", "java/lang/Exception"]).filter goodWord
def GW : List Cond := GA0 ++ (GA1 ++ (GA2 ++ (GA3 ++ (GA4 ++ (GA5 ++ (GA6 ++ (GA7 ++ (GA8 ++ (GA9 ++ (GA10 ++ (GA11 ++ (GA12 ++ (GA13 ++ (GA14 ++ (GA15 ++ (GA16 ++ (GA17 ++ (GA18 ++ (GA19 ++ (GA20 ++ (GA21 ++ (GA22 ++ (GA23 ++ (GA24 ++ (GA25 ++ (GA26 ++ (GA27 ++ (GA28 ++ (GA29 ++ (GA30 ++ (GA31 ++ (GA32 ++ (GA33 ++ (GA34 ++ (GA35 ++ (GA36 ++ (GA37 ++ (GA38 ++ (GA39 ++ (GA40 ++ (GA41 ++ (GA42 ++ (GA43 ++ (GA44 ++ (GA45 ++ (GA46 ++ (GA47 ++ (GA48 ++ (GA49 ++ (GA50 ++ (wsX00 ++ (wsX10 ++ (wsX20 ++ (wsX30 ++ (wsX40 ++ (wsX50 ++ (wsX60 ++ (wsX70 ++ (wsX80 ++ (wsX90 ++ (wsX100 ++ (wsJx4a65c0 ++ (GT0 ++ (GT1 ++ (GT2 ++ (GT3 ++ (GT4 ++ (GT5))))))))))))))))))))))))))))))))))))))))))))))))))))))))))))))))))))
theorem mGA0 : ∀ w ∈ GA0, w ∈ GW := fun _ h => (List.mem_append_left _ h)
theorem mGA1 : ∀ w ∈ GA1, w ∈ GW := fun _ h => (List.mem_append_right _ (List.mem_append_left _ h))
theorem mGA2 : ∀ w ∈ GA2, w ∈ GW := fun _ h => (List.mem_append_right _ (List.mem_append_right _ (List.mem_append_left _ h)))
theorem mGA3 : ∀ w ∈ GA3, w ∈ GW := fun _ h => (List.mem_append_right _ (List.mem_append_right _ (List.mem_append_right _ (List.mem_append_left _ h))))
theorem mGA4 : ∀ w ∈ GA4, w ∈ GW := fun _ h => (List.mem_append_right _ (List.mem_append_right _ (List.mem_append_right _ (List.mem_append_right _ (List.mem_append_left _ h)))))
theorem mGA5 : ∀ w ∈ GA5, w ∈ GW := fun _ h => (List.mem_append_right _ (List.mem_append_right _ (List.mem_append_right _ (List.mem_append_right _ (List.mem_append_right _ (List.mem_append_left _ h))))))
theorem mGA6 : ∀ w ∈ GA6, w ∈ GW := fun _ h => (List.mem_append_right _ (List.mem_append_right _ (List.mem_append_right _ (List.mem_append_right _ (List.mem_append_right _ (List.mem_append_right _ (List.mem_append_left _ h)))))))
theorem mGA7 : ∀ w ∈ GA7, w ∈ GW := fun _ h => (List.mem_append_right _ (List.mem_append_right _ (List.mem_append_right _ (List.mem_append_right _ (List.mem_append_right _ (List.mem_append_right _ (List.mem_append_right _ (List.mem_append_left _ h))))))))
theorem mGA8 : ∀ w ∈ GA8, w ∈ GW := fun _ h => (List.mem_append_right _ (List.mem_append_right _ (List.mem_append_right _ (List.mem_append_right _ (List.mem_append_right _ (List.mem_append_right _ (List.mem_append_right _ (List.mem_append_right _ (List.mem_append_left _ h)))))))))
theorem mGA9 : ∀ w ∈ GA9, w ∈ GW := fun _ h => (List.mem_append_right _ (List.mem_append_right _ (List.mem_append_right _ (List.mem_append_right _ (List.mem_append_right _ (List.mem_append_right _ (List.mem_append_right _ (List.mem_append_right _ (List.mem_append_right _ (List.mem_append_left _ h))))))))))
theorem mGA10 : ∀ w ∈ GA10, w ∈ GW := fun _ h => (List.mem_append_right _ (List.mem_append_right _ (List.mem_append_right _ (List.mem_append_right _ (List.mem_append_right _ (List.mem_append_right _ (List.mem_append_right _ (List.mem_append_right _ (List.mem_append_right _ (List.mem_append_right _ (List.mem_append_left _ h)))))))))))
theorem mGA11 : ∀ w ∈ GA11, w ∈ GW := fun _ h => (List.mem_append_right _ (List.mem_append_right _ (List.mem_append_right _ (List.mem_append_right _ (List.mem_append_right _ (List.mem_append_right _ (List.mem_append_right _ (List.mem_append_right _ (List.mem_append_right _ (List.mem_append_right _ (List.mem_append_right _ (List.mem_append_left _ h))))))))))))
theorem mGA12 : ∀ w ∈ GA12, w ∈ GW := fun _ h => (List.mem_append_right _ (List.mem_append_right _ (List.mem_append_right _ (List.mem_append_right _ (List.mem_append_right _ (List.mem_append_right _ (List.mem_append_right _ (List.mem_append_right _ (List.mem_append_right _ (List.mem_append_right _ (List.mem_append_right _ (List.mem_append_right _ (List.mem_append_left _ h)))))))))))))
theorem mGA13 : ∀ w ∈ GA13, w ∈ GW := fun _ h => (List.mem_append_right _ (List.mem_append_right _ (List.mem_append_right _ (List.mem_append_right _ (List.mem_append_right _ (List.mem_append_right _ (List.mem_append_right _ (List.mem_append_right _ (List.mem_append_right _ (List.mem_append_right _ (List.mem_append_right _ (List.mem_append_right _ (List.mem_append_right _ (List.mem_append_left _ h))))))))))))))
theorem mGA14 : ∀ w ∈ GA14, w ∈ GW := fun _ h => (List.mem_append_right _ (List.mem_append_right _ (List.mem_append_right _ (List.mem_append_right _ (List.mem_append_right _ (List.mem_append_right _ (List.mem_append_right _ (List.mem_append_right _ (List.mem_append_right _ (List.mem_append_right _ (List.mem_append_right _ (List.mem_append_right _ (List.mem_append_right _ (List.mem_append_right _ (List.mem_append_left _ h)))))))))))))))
theorem mGA15 : ∀ w ∈ GA15, w ∈ GW := fun _ h => (List.mem_append_right _ (List.mem_append_right _ (List.mem_append_right _ (List.mem_append_right _ (List.mem_append_right _ (List.mem_append_right _ (List.mem_append_right _ (List.mem_append_right _ (List.mem_append_right _ (List.mem_append_right _ (List.mem_append_right _ (List.mem_append_right _ (List.mem_append_right _ (List.mem_append_right _ (List.mem_append_right _ (List.mem_append_left _ h))))))))))))))))
theorem mGA16 : ∀ w ∈ GA16, w ∈ GW := fun _ h => (List.mem_append_right _ (List.mem_append_right _ (List.mem_append_right _ (List.mem_append_right _ (List.mem_append_right _ (List.mem_append_right _ (List.mem_append_right _ (List.mem_append_right _ (List.mem_append_right _ (List.mem_append_right _ (List.mem_append_right _ (List.mem_append_right _ (List.mem_append_right _ (List.mem_append_right _ (List.mem_append_right _ (List.mem_append_right _ (List.mem_append_left _ h)))))))))))))))))
theorem mGA17 : ∀ w ∈ GA17, w ∈ GW := fun _ h => (List.mem_append_right _ (List.mem_append_right _ (List.mem_append_right _ (List.mem_append_right _ (List.mem_append_right _ (List.mem_append_right _ (List.mem_append_right _ (List.mem_append_right _ (List.mem_append_right _ (List.mem_append_right _ (List.mem_append_right _ (List.mem_append_right _ (List.mem_append_right _ (List.mem_append_right _ (List.mem_append_right _ (List.mem_append_right _ (List.mem_append_right _ (List.mem_append_left _ h))))))))))))))))))
theorem mGA18 : ∀ w ∈ GA18, w ∈ GW := fun _ h => (List.mem_append_right _ (List.mem_append_right _ (List.mem_append_right _ (List.mem_append_right _ (List.mem_append_right _ (List.mem_append_right _ (List.mem_append_right _ (List.mem_append_right _ (List.mem_append_right _ (List.mem_append_right _ (List.mem_append_right _ (List.mem_append_right _ (List.mem_append_right _ (List.mem_append_right _ (List.mem_append_right _ (List.mem_append_right _ (List.mem_append_right _ (List.mem_append_right _ (List.mem_append_left _ h)))))))))))))))))))
theorem mGA19 : ∀ w ∈ GA19, w ∈ GW := fun _ h => (List.mem_append_right _ (List.mem_append_right _ (List.mem_append_right _ (List.mem_append_right _ (List.mem_append_right _ (List.mem_append_right _ (List.mem_append_right _ (List.mem_append_right _ (List.mem_append_right _ (List.mem_append_right _ (List.mem_append_right _ (List.mem_append_right _ (List.mem_append_right _ (List.mem_append_right _ (List.mem_append_right _ (List.mem_append_right _ (List.mem_append_right _ (List.mem_append_right _ (List.mem_append_right _ (List.mem_append_left _ h))))))))))))))))))))
theorem mGA20 : ∀ w ∈ GA20, w ∈ GW := fun _ h => (List.mem_append_right _ (List.mem_append_right _ (List.mem_append_right _ (List.mem_append_right _ (List.mem_append_right _ (List.mem_append_right _ (List.mem_append_right _ (List.mem_append_right _ (List.mem_append_right _ (List.mem_append_right _ (List.mem_append_right _ (List.mem_append_right _ (List.mem_append_right _ (List.mem_append_right _ (List.mem_append_right _ (List.mem_append_right _ (List.mem_append_right _ (List.mem_append_right _ (List.mem_append_right _ (List.mem_append_right _ (List.mem_append_left _ h)))))))))))))))))))))
theorem mGA21 : ∀ w ∈ GA21, w ∈ GW := fun _ h => (List.mem_append_right _ (List.mem_append_right _ (List.mem_append_right _ (List.mem_append_right _ (List.mem_append_right _ (List.mem_append_right _ (List.mem_append_right _ (List.mem_append_right _ (List.mem_append_right _ (List.mem_append_right _ (List.mem_append_right _ (List.mem_append_right _ (List.mem_append_right _ (List.mem_append_right _ (List.mem_append_right _ (List.mem_append_right _ (List.mem_append_right _ (List.mem_append_right _ (List.mem_append_right _ (List.mem_append_right _ (List.mem_append_right _ (List.mem_append_left _ h))))))))))))))))))))))
theorem mGA22 : ∀ w ∈ GA22, w ∈ GW := fun _ h => (List.mem_append_right _ (List.mem_append_right _ (List.mem_append_right _ (List.mem_append_right _ (List.mem_append_right _ (List.mem_append_right _ (List.mem_append_right _ (List.mem_append_right _ (List.mem_append_right _ (List.mem_append_right _ (List.mem_append_right _ (List.mem_append_right _ (List.mem_append_right _ (List.mem_append_right _ (List.mem_append_right _ (List.mem_append_right _ (List.mem_append_right _ (List.mem_append_right _ (List.mem_append_right _ (List.mem_append_right _ (List.mem_append_right _ (List.mem_append_right _ (List.mem_append_left _ h)))))))))))))))))))))))
theorem mGA23 : ∀ w ∈ GA23, w ∈ GW := fun _ h => (List.mem_append_right _ (List.mem_append_right _ (List.mem_append_right _ (List.mem_append_right _ (List.mem_append_right _ (List.mem_append_right _ (List.mem_append_right _ (List.mem_append_right _ (List.mem_append_right _ (List.mem_append_right _ (List.mem_append_right _ (List.mem_append_right _ (List.mem_append_right _ (List.mem_append_right _ (List.mem_append_right _ (List.mem_append_right _ (List.mem_append_right _ (List.mem_append_right _ (List.mem_append_right _ (List.mem_append_right _ (List.mem_append_right _ (List.mem_append_right _ (List.mem_append_right _ (List.mem_append_left _ h))))))))))))))))))))))))
theorem mGA24 : ∀ w ∈ GA24, w ∈ GW := fun _ h => (List.mem_append_right _ (List.mem_append_right _ (List.mem_append_right _ (List.mem_append_right _ (List.mem_append_right _ (List.mem_append_right _ (List.mem_append_right _ (List.mem_append_right _ (List.mem_append_right _ (List.mem_append_right _ (List.mem_append_right _ (List.mem_append_right _ (List.mem_append_right _ (List.mem_append_right _ (List.mem_append_right _ (List.mem_append_right _ (List.mem_append_right _ (List.mem_append_right _ (List.mem_append_right _ (List.mem_append_right _ (List.mem_append_right _ (List.mem_append_right _ (List.mem_append_right _ (List.mem_append_right _ (List.mem_append_left _ h)))))))))))))))))))))))))
theorem mGA25 : ∀ w ∈ GA25, w ∈ GW := fun _ h => (List.mem_append_right _ (List.mem_append_right _ (List.mem_append_right _ (List.mem_append_right _ (List.mem_append_right _ (List.mem_append_right _ (List.mem_append_right _ (List.mem_append_right _ (List.mem_append_right _ (List.mem_append_right _ (List.mem_append_right _ (List.mem_append_right _ (List.mem_append_right _ (List.mem_append_right _ (List.mem_append_right _ (List.mem_append_right _ (List.mem_append_right _ (List.mem_append_right _ (List.mem_append_right _ (List.mem_append_right _ (List.mem_append_right _ (List.mem_append_right _ (List.mem_append_right _ (List.mem_append_right _ (List.mem_append_right _ (List.mem_append_left _ h))))))))))))))))))))))))))
theorem mGA26 : ∀ w ∈ GA26, w ∈ GW := fun _ h => (List.mem_append_right _ (List.mem_append_right _ (List.mem_append_right _ (List.mem_append_right _ (List.mem_append_right _ (List.mem_append_right _ (List.mem_append_right _ (List.mem_append_right _ (List.mem_append_right _ (List.mem_append_right _ (List.mem_append_right _ (List.mem_append_right _ (List.mem_append_right _ (List.mem_append_right _ (List.mem_append_right _ (List.mem_append_right _ (List.mem_append_right _ (List.mem_append_right _ (List.mem_append_right _ (List.mem_append_right _ (List.mem_append_right _ (List.mem_append_right _ (List.mem_append_right _ (List.mem_append_right _ (List.mem_append_right _ (List.mem_append_right _ (List.mem_append_left _ h)))))))))))))))))))))))))))
theorem mGA27 : ∀ w ∈ GA27, w ∈ GW := fun _ h => (List.mem_append_right _ (List.mem_append_right _ (List.mem_append_right _ (List.mem_append_right _ (List.mem_append_right _ (List.mem_append_right _ (List.mem_append_right _ (List.mem_append_right _ (List.mem_append_right _ (List.mem_append_right _ (List.mem_append_right _ (List.mem_append_right _ (List.mem_append_right _ (List.mem_append_right _ (List.mem_append_right _ (List.mem_append_right _ (List.mem_append_right _ (List.mem_append_right _ (List.mem_append_right _ (List.mem_append_right _ (List.mem_append_right _ (List.mem_append_right _ (List.mem_append_right _ (List.mem_append_right _ (List.mem_append_right _ (List.mem_append_right _ (List.mem_append_right _ (List.mem_append_left _ h))))))))))))))))))))))))))))
theorem mGA28 : ∀ w ∈ GA28, w ∈ GW := fun _ h => (List.mem_append_right _ (List.mem_append_right _ (List.mem_append_right _ (List.mem_append_right _ (List.mem_append_right _ (List.mem_append_right _ (List.mem_append_right _ (List.mem_append_right _ (List.mem_append_right _ (List.mem_append_right _ (List.mem_append_right _ (List.mem_append_right _ (List.mem_append_right _ (List.mem_append_right _ (List.mem_append_right _ (List.mem_append_right _ (List.mem_append_right _ (List.mem_append_right _ (List.mem_append_right _ (List.mem_append_right _ (List.mem_append_right _ (List.mem_append_right _ (List.mem_append_right _ (List.mem_append_right _ (List.mem_append_right _ (List.mem_append_right _ (List.mem_append_right _ (List.mem_append_right _ (List.mem_append_left _ h)))))))))))))))))))))))))))))
theorem mGA29 : ∀ w ∈ GA29, w ∈ GW := fun _ h => (List.mem_append_right _ (List.mem_append_right _ (List.mem_append_right _ (List.mem_append_right _ (List.mem_append_right _ (List.mem_append_right _ (List.mem_append_right _ (List.mem_append_right _ (List.mem_append_right _ (List.mem_append_right _ (List.mem_append_right _ (List.mem_append_right _ (List.mem_append_right _ (List.mem_append_right _ (List.mem_append_right _ (List.mem_append_right _ (List.mem_append_right _ (List.mem_append_right _ (List.mem_append_right _ (List.mem_append_right _ (List.mem_append_right _ (List.mem_append_right _ (List.mem_append_right _ (List.mem_append_right _ (List.mem_append_right _ (List.mem_append_right _ (List.mem_append_right _ (List.mem_append_right _ (List.mem_append_right _ (List.mem_append_left _ h))))))))))))))))))))))))))))))
theorem mGA30 : ∀ w ∈ GA30, w ∈ GW := fun _ h => (List.mem_append_right _ (List.mem_append_right _ (List.mem_append_right _ (List.mem_append_right _ (List.mem_append_right _ (List.mem_append_right _ (List.mem_append_right _ (List.mem_append_right _ (List.mem_append_right _ (List.mem_append_right _ (List.mem_append_right _ (List.mem_append_right _ (List.mem_append_right _ (List.mem_append_right _ (List.mem_append_right _ (List.mem_append_right _ (List.mem_append_right _ (List.mem_append_right _ (List.mem_append_right _ (List.mem_append_right _ (List.mem_append_right _ (List.mem_append_right _ (List.mem_append_right _ (List.mem_append_right _ (List.mem_append_right _ (List.mem_append_right _ (List.mem_append_right _ (List.mem_append_right _ (List.mem_append_right _ (List.mem_append_right _ (List.mem_append_left _ h)))))))))))))))))))))))))))))))
theorem mGA31 : ∀ w ∈ GA31, w ∈ GW := fun _ h => (List.mem_append_right _ (List.mem_append_right _ (List.mem_append_right _ (List.mem_append_right _ (List.mem_append_right _ (List.mem_append_right _ (List.mem_append_right _ (List.mem_append_right _ (List.mem_append_right _ (List.mem_append_right _ (List.mem_append_right _ (List.mem_append_right _ (List.mem_append_right _ (List.mem_append_right _ (List.mem_append_right _ (List.mem_append_right _ (List.mem_append_right _ (List.mem_append_right _ (List.mem_append_right _ (List.mem_append_right _ (List.mem_append_right _ (List.mem_append_right _ (List.mem_append_right _ (List.mem_append_right _ (List.mem_append_right _ (List.mem_append_right _ (List.mem_append_right _ (List.mem_append_right _ (List.mem_append_right _ (List.mem_append_right _ (List.mem_append_right _ (List.mem_append_left _ h))))))))))))))))))))))))))))))))
theorem mGA32 : ∀ w ∈ GA32, w ∈ GW := fun _ h => (List.mem_append_right _ (List.mem_append_right _ (List.mem_append_right _ (List.mem_append_right _ (List.mem_append_right _ (List.mem_append_right _ (List.mem_append_right _ (List.mem_append_right _ (List.mem_append_right _ (List.mem_append_right _ (List.mem_append_right _ (List.mem_append_right _ (List.mem_append_right _ (List.mem_append_right _ (List.mem_append_right _ (List.mem_append_right _ (List.mem_append_right _ (List.mem_append_right _ (List.mem_append_right _ (List.mem_append_right _ (List.mem_append_right _ (List.mem_append_right _ (List.mem_append_right _ (List.mem_append_right _ (List.mem_append_right _ (List.mem_append_right _ (List.mem_append_right _ (List.mem_append_right _ (List.mem_append_right _ (List.mem_append_right _ (List.mem_append_right _ (List.mem_append_right _ (List.mem_append_left _ h)))))))))))))))))))))))))))))))))
theorem mGA33 : ∀ w ∈ GA33, w ∈ GW := fun _ h => (List.mem_append_right _ (List.mem_append_right _ (List.mem_append_right _ (List.mem_append_right _ (List.mem_append_right _ (List.mem_append_right _ (List.mem_append_right _ (List.mem_append_right _ (List.mem_append_right _ (List.mem_append_right _ (List.mem_append_right _ (List.mem_append_right _ (List.mem_append_right _ (List.mem_append_right _ (List.mem_append_right _ (List.mem_append_right _ (List.mem_append_right _ (List.mem_append_right _ (List.mem_append_right _ (List.mem_append_right _ (List.mem_append_right _ (List.mem_append_right _ (List.mem_append_right _ (List.mem_append_right _ (List.mem_append_right _ (List.mem_append_right _ (List.mem_append_right _ (List.mem_append_right _ (List.mem_append_right _ (List.mem_append_right _ (List.mem_append_right _ (List.mem_append_right _ (List.mem_append_right _ (List.mem_append_left _ h))))))))))))))))))))))))))))))))))
theorem mGA34 : ∀ w ∈ GA34, w ∈ GW := fun _ h => (List.mem_append_right _ (List.mem_append_right _ (List.mem_append_right _ (List.mem_append_right _ (List.mem_append_right _ (List.mem_append_right _ (List.mem_append_right _ (List.mem_append_right _ (List.mem_append_right _ (List.mem_append_right _ (List.mem_append_right _ (List.mem_append_right _ (List.mem_append_right _ (List.mem_append_right _ (List.mem_append_right _ (List.mem_append_right _ (List.mem_append_right _ (List.mem_append_right _ (List.mem_append_right _ (List.mem_append_right _ (List.mem_append_right _ (List.mem_append_right _ (List.mem_append_right _ (List.mem_append_right _ (List.mem_append_right _ (List.mem_append_right _ (List.mem_append_right _ (List.mem_append_right _ (List.mem_append_right _ (List.mem_append_right _ (List.mem_append_right _ (List.mem_append_right _ (List.mem_append_right _ (List.mem_append_right _ (List.mem_append_left _ h)))))))))))))))))))))))))))))))))))
theorem mGA35 : ∀ w ∈ GA35, w ∈ GW := fun _ h => (List.mem_append_right _ (List.mem_append_right _ (List.mem_append_right _ (List.mem_append_right _ (List.mem_append_right _ (List.mem_append_right _ (List.mem_append_right _ (List.mem_append_right _ (List.mem_append_right _ (List.mem_append_right _ (List.mem_append_right _ (List.mem_append_right _ (List.mem_append_right _ (List.mem_append_right _ (List.mem_append_right _ (List.mem_append_right _ (List.mem_append_right _ (List.mem_append_right _ (List.mem_append_right _ (List.mem_append_right _ (List.mem_append_right _ (List.mem_append_right _ (List.mem_append_right _ (List.mem_append_right _ (List.mem_append_right _ (List.mem_append_right _ (List.mem_append_right _ (List.mem_append_right _ (List.mem_append_right _ (List.mem_append_right _ (List.mem_append_right _ (List.mem_append_right _ (List.mem_append_right _ (List.mem_append_right _ (List.mem_append_right _ (List.mem_append_left _ h))))))))))))))))))))))))))))))))))))
theorem mGA36 : ∀ w ∈ GA36, w ∈ GW := fun _ h => (List.mem_append_right _ (List.mem_append_right _ (List.mem_append_right _ (List.mem_append_right _ (List.mem_append_right _ (List.mem_append_right _ (List.mem_append_right _ (List.mem_append_right _ (List.mem_append_right _ (List.mem_append_right _ (List.mem_append_right _ (List.mem_append_right _ (List.mem_append_right _ (List.mem_append_right _ (List.mem_append_right _ (List.mem_append_right _ (List.mem_append_right _ (List.mem_append_right _ (List.mem_append_right _ (List.mem_append_right _ (List.mem_append_right _ (List.mem_append_right _ (List.mem_append_right _ (List.mem_append_right _ (List.mem_append_right _ (List.mem_append_right _ (List.mem_append_right _ (List.mem_append_right _ (List.mem_append_right _ (List.mem_append_right _ (List.mem_append_right _ (List.mem_append_right _ (List.mem_append_right _ (List.mem_append_right _ (List.mem_append_right _ (List.mem_append_right _ (List.mem_append_left _ h)))))))))))))))))))))))))))))))))))))
theorem mGA37 : ∀ w ∈ GA37, w ∈ GW := fun _ h => (List.mem_append_right _ (List.mem_append_right _ (List.mem_append_right _ (List.mem_append_right _ (List.mem_append_right _ (List.mem_append_right _ (List.mem_append_right _ (List.mem_append_right _ (List.mem_append_right _ (List.mem_append_right _ (List.mem_append_right _ (List.mem_append_right _ (List.mem_append_right _ (List.mem_append_right _ (List.mem_append_right _ (List.mem_append_right _ (List.mem_append_right _ (List.mem_append_right _ (List.mem_append_right _ (List.mem_append_right _ (List.mem_append_right _ (List.mem_append_right _ (List.mem_append_right _ (List.mem_append_right _ (List.mem_append_right _ (List.mem_append_right _ (List.mem_append_right _ (List.mem_append_right _ (List.mem_append_right _ (List.mem_append_right _ (List.mem_append_right _ (List.mem_append_right _ (List.mem_append_right _ (List.mem_append_right _ (List.mem_append_right _ (List.mem_append_right _ (List.mem_append_right _ (List.mem_append_left _ h))))))))))))))))))))))))))))))))))))))
theorem mGA38 : ∀ w ∈ GA38, w ∈ GW := fun _ h => (List.mem_append_right _ (List.mem_append_right _ (List.mem_append_right _ (List.mem_append_right _ (List.mem_append_right _ (List.mem_append_right _ (List.mem_append_right _ (List.mem_append_right _ (List.mem_append_right _ (List.mem_append_right _ (List.mem_append_right _ (List.mem_append_right _ (List.mem_append_right _ (List.mem_append_right _ (List.mem_append_right _ (List.mem_append_right _ (List.mem_append_right _ (List.mem_append_right _ (List.mem_append_right _ (List.mem_append_right _ (List.mem_append_right _ (List.mem_append_right _ (List.mem_append_right _ (List.mem_append_right _ (List.mem_append_right _ (List.mem_append_right _ (List.mem_append_right _ (List.mem_append_right _ (List.mem_append_right _ (List.mem_append_right _ (List.mem_append_right _ (List.mem_append_right _ (List.mem_append_right _ (List.mem_append_right _ (List.mem_append_right _ (List.mem_append_right _ (List.mem_append_right _ (List.mem_append_right _ (List.mem_append_left _ h)))))))))))))))))))))))))))))))))))))))
theorem mGA39 : ∀ w ∈ GA39, w ∈ GW := fun _ h => (List.mem_append_right _ (List.mem_append_right _ (List.mem_append_right _ (List.mem_append_right _ (List.mem_append_right _ (List.mem_append_right _ (List.mem_append_right _ (List.mem_append_right _ (List.mem_append_right _ (List.mem_append_right _ (List.mem_append_right _ (List.mem_append_right _ (List.mem_append_right _ (List.mem_append_right _ (List.mem_append_right _ (List.mem_append_right _ (List.mem_append_right _ (List.mem_append_right _ (List.mem_append_right _ (List.mem_append_right _ (List.mem_append_right _ (List.mem_append_right _ (List.mem_append_right _ (List.mem_append_right _ (List.mem_append_right _ (List.mem_append_right _ (List.mem_append_right _ (List.mem_append_right _ (List.mem_append_right _ (List.mem_append_right _ (List.mem_append_right _ (List.mem_append_right _ (List.mem_append_right _ (List.mem_append_right _ (List.mem_append_right _ (List.mem_append_right _ (List.mem_append_right _ (List.mem_append_right _ (List.mem_append_right _ (List.mem_append_left _ h))))))))))))))))))))))))))))))))))))))))
theorem mGA40 : ∀ w ∈ GA40, w ∈ GW := fun _ h => (List.mem_append_right _ (List.mem_append_right _ (List.mem_append_right _ (List.mem_append_right _ (List.mem_append_right _ (List.mem_append_right _ (List.mem_append_right _ (List.mem_append_right _ (List.mem_append_right _ (List.mem_append_right _ (List.mem_append_right _ (List.mem_append_right _ (List.mem_append_right _ (List.mem_append_right _ (List.mem_append_right _ (List.mem_append_right _ (List.mem_append_right _ (List.mem_append_right _ (List.mem_append_right _ (List.mem_append_right _ (List.mem_append_right _ (List.mem_append_right _ (List.mem_append_right _ (List.mem_append_right _ (List.mem_append_right _ (List.mem_append_right _ (List.mem_append_right _ (List.mem_append_right _ (List.mem_append_right _ (List.mem_append_right _ (List.mem_append_right _ (List.mem_append_right _ (List.mem_append_right _ (List.mem_append_right _ (List.mem_append_right _ (List.mem_append_right _ (List.mem_append_right _ (List.mem_append_right _ (List.mem_append_right _ (List.mem_append_right _ (List.mem_append_left _ h)))))))))))))))))))))))))))))))))))))))))
theorem mGA41 : ∀ w ∈ GA41, w ∈ GW := fun _ h => (List.mem_append_right _ (List.mem_append_right _ (List.mem_append_right _ (List.mem_append_right _ (List.mem_append_right _ (List.mem_append_right _ (List.mem_append_right _ (List.mem_append_right _ (List.mem_append_right _ (List.mem_append_right _ (List.mem_append_right _ (List.mem_append_right _ (List.mem_append_right _ (List.mem_append_right _ (List.mem_append_right _ (List.mem_append_right _ (List.mem_append_right _ (List.mem_append_right _ (List.mem_append_right _ (List.mem_append_right _ (List.mem_append_right _ (List.mem_append_right _ (List.mem_append_right _ (List.mem_append_right _ (List.mem_append_right _ (List.mem_append_right _ (List.mem_append_right _ (List.mem_append_right _ (List.mem_append_right _ (List.mem_append_right _ (List.mem_append_right _ (List.mem_append_right _ (List.mem_append_right _ (List.mem_append_right _ (List.mem_append_right _ (List.mem_append_right _ (List.mem_append_right _ (List.mem_append_right _ (List.mem_append_right _ (List.mem_append_right _ (List.mem_append_right _ (List.mem_append_left _ h))))))))))))))))))))))))))))))))))))))))))
theorem mGA42 : ∀ w ∈ GA42, w ∈ GW := fun _ h => (List.mem_append_right _ (List.mem_append_right _ (List.mem_append_right _ (List.mem_append_right _ (List.mem_append_right _ (List.mem_append_right _ (List.mem_append_right _ (List.mem_append_right _ (List.mem_append_right _ (List.mem_append_right _ (List.mem_append_right _ (List.mem_append_right _ (List.mem_append_right _ (List.mem_append_right _ (List.mem_append_right _ (List.mem_append_right _ (List.mem_append_right _ (List.mem_append_right _ (List.mem_append_right _ (List.mem_append_right _ (List.mem_append_right _ (List.mem_append_right _ (List.mem_append_right _ (List.mem_append_right _ (List.mem_append_right _ (List.mem_append_right _ (List.mem_append_right _ (List.mem_append_right _ (List.mem_append_right _ (List.mem_append_right _ (List.mem_append_right _ (List.mem_append_right _ (List.mem_append_right _ (List.mem_append_right _ (List.mem_append_right _ (List.mem_append_right _ (List.mem_append_right _ (List.mem_append_right _ (List.mem_append_right _ (List.mem_append_right _ (List.mem_append_right _ (List.mem_append_right _ (List.mem_append_left _ h)))))))))))))))))))))))))))))))))))))))))))
theorem mGA43 : ∀ w ∈ GA43, w ∈ GW := fun _ h => (List.mem_append_right _ (List.mem_append_right _ (List.mem_append_right _ (List.mem_append_right _ (List.mem_append_right _ (List.mem_append_right _ (List.mem_append_right _ (List.mem_append_right _ (List.mem_append_right _ (List.mem_append_right _ (List.mem_append_right _ (List.mem_append_right _ (List.mem_append_right _ (List.mem_append_right _ (List.mem_append_right _ (List.mem_append_right _ (List.mem_append_right _ (List.mem_append_right _ (List.mem_append_right _ (List.mem_append_right _ (List.mem_append_right _ (List.mem_append_right _ (List.mem_append_right _ (List.mem_append_right _ (List.mem_append_right _ (List.mem_append_right _ (List.mem_append_right _ (List.mem_append_right _ (List.mem_append_right _ (List.mem_append_right _ (List.mem_append_right _ (List.mem_append_right _ (List.mem_append_right _ (List.mem_append_right _ (List.mem_append_right _ (List.mem_append_right _ (List.mem_append_right _ (List.mem_append_right _ (List.mem_append_right _ (List.mem_append_right _ (List.mem_append_right _ (List.mem_append_right _ (List.mem_append_right _ (List.mem_append_left _ h))))))))))))))))))))))))))))))))))))))))))))
theorem mGA44 : ∀ w ∈ GA44, w ∈ GW := fun _ h => (List.mem_append_right _ (List.mem_append_right _ (List.mem_append_right _ (List.mem_append_right _ (List.mem_append_right _ (List.mem_append_right _ (List.mem_append_right _ (List.mem_append_right _ (List.mem_append_right _ (List.mem_append_right _ (List.mem_append_right _ (List.mem_append_right _ (List.mem_append_right _ (List.mem_append_right _ (List.mem_append_right _ (List.mem_append_right _ (List.mem_append_right _ (List.mem_append_right _ (List.mem_append_right _ (List.mem_append_right _ (List.mem_append_right _ (List.mem_append_right _ (List.mem_append_right _ (List.mem_append_right _ (List.mem_append_right _ (List.mem_append_right _ (List.mem_append_right _ (List.mem_append_right _ (List.mem_append_right _ (List.mem_append_right _ (List.mem_append_right _ (List.mem_append_right _ (List.mem_append_right _ (List.mem_append_right _ (List.mem_append_right _ (List.mem_append_right _ (List.mem_append_right _ (List.mem_append_right _ (List.mem_append_right _ (List.mem_append_right _ (List.mem_append_right _ (List.mem_append_right _ (List.mem_append_right _ (List.mem_append_right _ (List.mem_append_left _ h)))))))))))))))))))))))))))))))))))))))))))))
theorem mGA45 : ∀ w ∈ GA45, w ∈ GW := fun _ h => (List.mem_append_right _ (List.mem_append_right _ (List.mem_append_right _ (List.mem_append_right _ (List.mem_append_right _ (List.mem_append_right _ (List.mem_append_right _ (List.mem_append_right _ (List.mem_append_right _ (List.mem_append_right _ (List.mem_append_right _ (List.mem_append_right _ (List.mem_append_right _ (List.mem_append_right _ (List.mem_append_right _ (List.mem_append_right _ (List.mem_append_right _ (List.mem_append_right _ (List.mem_append_right _ (List.mem_append_right _ (List.mem_append_right _ (List.mem_append_right _ (List.mem_append_right _ (List.mem_append_right _ (List.mem_append_right _ (List.mem_append_right _ (List.mem_append_right _ (List.mem_append_right _ (List.mem_append_right _ (List.mem_append_right _ (List.mem_append_right _ (List.mem_append_right _ (List.mem_append_right _ (List.mem_append_right _ (List.mem_append_right _ (List.mem_append_right _ (List.mem_append_right _ (List.mem_append_right _ (List.mem_append_right _ (List.mem_append_right _ (List.mem_append_right _ (List.mem_append_right _ (List.mem_append_right _ (List.mem_append_right _ (List.mem_append_right _ (List.mem_append_left _ h))))))))))))))))))))))))))))))))))))))))))))))
theorem mGA46 : ∀ w ∈ GA46, w ∈ GW := fun _ h => (List.mem_append_right _ (List.mem_append_right _ (List.mem_append_right _ (List.mem_append_right _ (List.mem_append_right _ (List.mem_append_right _ (List.mem_append_right _ (List.mem_append_right _ (List.mem_append_right _ (List.mem_append_right _ (List.mem_append_right _ (List.mem_append_right _ (List.mem_append_right _ (List.mem_append_right _ (List.mem_append_right _ (List.mem_append_right _ (List.mem_append_right _ (List.mem_append_right _ (List.mem_append_right _ (List.mem_append_right _ (List.mem_append_right _ (List.mem_append_right _ (List.mem_append_right _ (List.mem_append_right _ (List.mem_append_right _ (List.mem_append_right _ (List.mem_append_right _ (List.mem_append_right _ (List.mem_append_right _ (List.mem_append_right _ (List.mem_append_right _ (List.mem_append_right _ (List.mem_append_right _ (List.mem_append_right _ (List.mem_append_right _ (List.mem_append_right _ (List.mem_append_right _ (List.mem_append_right _ (List.mem_append_right _ (List.mem_append_right _ (List.mem_append_right _ (List.mem_append_right _ (List.mem_append_right _ (List.mem_append_right _ (List.mem_append_right _ (List.mem_append_right _ (List.mem_append_left _ h)))))))))))))))))))))))))))))))))))))))))))))))
theorem mGA47 : ∀ w ∈ GA47, w ∈ GW := fun _ h => (List.mem_append_right _ (List.mem_append_right _ (List.mem_append_right _ (List.mem_append_right _ (List.mem_append_right _ (List.mem_append_right _ (List.mem_append_right _ (List.mem_append_right _ (List.mem_append_right _ (List.mem_append_right _ (List.mem_append_right _ (List.mem_append_right _ (List.mem_append_right _ (List.mem_append_right _ (List.mem_append_right _ (List.mem_append_right _ (List.mem_append_right _ (List.mem_append_right _ (List.mem_append_right _ (List.mem_append_right _ (List.mem_append_right _ (List.mem_append_right _ (List.mem_append_right _ (List.mem_append_right _ (List.mem_append_right _ (List.mem_append_right _ (List.mem_append_right _ (List.mem_append_right _ (List.mem_append_right _ (List.mem_append_right _ (List.mem_append_right _ (List.mem_append_right _ (List.mem_append_right _ (List.mem_append_right _ (List.mem_append_right _ (List.mem_append_right _ (List.mem_append_right _ (List.mem_append_right _ (List.mem_append_right _ (List.mem_append_right _ (List.mem_append_right _ (List.mem_append_right _ (List.mem_append_right _ (List.mem_append_right _ (List.mem_append_right _ (List.mem_append_right _ (List.mem_append_right _ (List.mem_append_left _ h))))))))))))))))))))))))))))))))))))))))))))))))
theorem mGA48 : ∀ w ∈ GA48, w ∈ GW := fun _ h => (List.mem_append_right _ (List.mem_append_right _ (List.mem_append_right _ (List.mem_append_right _ (List.mem_append_right _ (List.mem_append_right _ (List.mem_append_right _ (List.mem_append_right _ (List.mem_append_right _ (List.mem_append_right _ (List.mem_append_right _ (List.mem_append_right _ (List.mem_append_right _ (List.mem_append_right _ (List.mem_append_right _ (List.mem_append_right _ (List.mem_append_right _ (List.mem_append_right _ (List.mem_append_right _ (List.mem_append_right _ (List.mem_append_right _ (List.mem_append_right _ (List.mem_append_right _ (List.mem_append_right _ (List.mem_append_right _ (List.mem_append_right _ (List.mem_append_right _ (List.mem_append_right _ (List.mem_append_right _ (List.mem_append_right _ (List.mem_append_right _ (List.mem_append_right _ (List.mem_append_right _ (List.mem_append_right _ (List.mem_append_right _ (List.mem_append_right _ (List.mem_append_right _ (List.mem_append_right _ (List.mem_append_right _ (List.mem_append_right _ (List.mem_append_right _ (List.mem_append_right _ (List.mem_append_right _ (List.mem_append_right _ (List.mem_append_right _ (List.mem_append_right _ (List.mem_append_right _ (List.mem_append_right _ (List.mem_append_left _ h)))))))))))))))))))))))))))))))))))))))))))))))))
theorem mGA49 : ∀ w ∈ GA49, w ∈ GW := fun _ h => (List.mem_append_right _ (List.mem_append_right _ (List.mem_append_right _ (List.mem_append_right _ (List.mem_append_right _ (List.mem_append_right _ (List.mem_append_right _ (List.mem_append_right _ (List.mem_append_right _ (List.mem_append_right _ (List.mem_append_right _ (List.mem_append_right _ (List.mem_append_right _ (List.mem_append_right _ (List.mem_append_right _ (List.mem_append_right _ (List.mem_append_right _ (List.mem_append_right _ (List.mem_append_right _ (List.mem_append_right _ (List.mem_append_right _ (List.mem_append_right _ (List.mem_append_right _ (List.mem_append_right _ (List.mem_append_right _ (List.mem_append_right _ (List.mem_append_right _ (List.mem_append_right _ (List.mem_append_right _ (List.mem_append_right _ (List.mem_append_right _ (List.mem_append_right _ (List.mem_append_right _ (List.mem_append_right _ (List.mem_append_right _ (List.mem_append_right _ (List.mem_append_right _ (List.mem_append_right _ (List.mem_append_right _ (List.mem_append_right _ (List.mem_append_right _ (List.mem_append_right _ (List.mem_append_right _ (List.mem_append_right _ (List.mem_append_right _ (List.mem_append_right _ (List.mem_append_right _ (List.mem_append_right _ (List.mem_append_right _ (List.mem_append_left _ h))))))))))))))))))))))))))))))))))))))))))))))))))
theorem mGA50 : ∀ w ∈ GA50, w ∈ GW := fun _ h => (List.mem_append_right _ (List.mem_append_right _ (List.mem_append_right _ (List.mem_append_right _ (List.mem_append_right _ (List.mem_append_right _ (List.mem_append_right _ (List.mem_append_right _ (List.mem_append_right _ (List.mem_append_right _ (List.mem_append_right _ (List.mem_append_right _ (List.mem_append_right _ (List.mem_append_right _ (List.mem_append_right _ (List.mem_append_right _ (List.mem_append_right _ (List.mem_append_right _ (List.mem_append_right _ (List.mem_append_right _ (List.mem_append_right _ (List.mem_append_right _ (List.mem_append_right _ (List.mem_append_right _ (List.mem_append_right _ (List.mem_append_right _ (List.mem_append_right _ (List.mem_append_right _ (List.mem_append_right _ (List.mem_append_right _ (List.mem_append_right _ (List.mem_append_right _ (List.mem_append_right _ (List.mem_append_right _ (List.mem_append_right _ (List.mem_append_right _ (List.mem_append_right _ (List.mem_append_right _ (List.mem_append_right _ (List.mem_append_right _ (List.mem_append_right _ (List.mem_append_right _ (List.mem_append_right _ (List.mem_append_right _ (List.mem_append_right _ (List.mem_append_right _ (List.mem_append_right _ (List.mem_append_right _ (List.mem_append_right _ (List.mem_append_right _ (List.mem_append_left _ h)))))))))))))))))))))))))))))))))))))))))))))))))))
theorem mwsX00 : ∀ w ∈ wsX00, w ∈ GW := fun _ h => (List.mem_append_right _ (List.mem_append_right _ (List.mem_append_right _ (List.mem_append_right _ (List.mem_append_right _ (List.mem_append_right _ (List.mem_append_right _ (List.mem_append_right _ (List.mem_append_right _ (List.mem_append_right _ (List.mem_append_right _ (List.mem_append_right _ (List.mem_append_right _ (List.mem_append_right _ (List.mem_append_right _ (List.mem_append_right _ (List.mem_append_right _ (List.mem_append_right _ (List.mem_append_right _ (List.mem_append_right _ (List.mem_append_right _ (List.mem_append_right _ (List.mem_append_right _ (List.mem_append_right _ (List.mem_append_right _ (List.mem_append_right _ (List.mem_append_right _ (List.mem_append_right _ (List.mem_append_right _ (List.mem_append_right _ (List.mem_append_right _ (List.mem_append_right _ (List.mem_append_right _ (List.mem_append_right _ (List.mem_append_right _ (List.mem_append_right _ (List.mem_append_right _ (List.mem_append_right _ (List.mem_append_right _ (List.mem_append_right _ (List.mem_append_right _ (List.mem_append_right _ (List.mem_append_right _ (List.mem_append_right _ (List.mem_append_right _ (List.mem_append_right _ (List.mem_append_right _ (List.mem_append_right _ (List.mem_append_right _ (List.mem_append_right _ (List.mem_append_right _ (List.mem_append_left _ h))))))))))))))))))))))))))))))))))))))))))))))))))))
theorem mwsX10 : ∀ w ∈ wsX10, w ∈ GW := fun _ h => (List.mem_append_right _ (List.mem_append_right _ (List.mem_append_right _ (List.mem_append_right _ (List.mem_append_right _ (List.mem_append_right _ (List.mem_append_right _ (List.mem_append_right _ (List.mem_append_right _ (List.mem_append_right _ (List.mem_append_right _ (List.mem_append_right _ (List.mem_append_right _ (List.mem_append_right _ (List.mem_append_right _ (List.mem_append_right _ (List.mem_append_right _ (List.mem_append_right _ (List.mem_append_right _ (List.mem_append_right _ (List.mem_append_right _ (List.mem_append_right _ (List.mem_append_right _ (List.mem_append_right _ (List.mem_append_right _ (List.mem_append_right _ (List.mem_append_right _ (List.mem_append_right _ (List.mem_append_right _ (List.mem_append_right _ (List.mem_append_right _ (List.mem_append_right _ (List.mem_append_right _ (List.mem_append_right _ (List.mem_append_right _ (List.mem_append_right _ (List.mem_append_right _ (List.mem_append_right _ (List.mem_append_right _ (List.mem_append_right _ (List.mem_append_right _ (List.mem_append_right _ (List.mem_append_right _ (List.mem_append_right _ (List.mem_append_right _ (List.mem_append_right _ (List.mem_append_right _ (List.mem_append_right _ (List.mem_append_right _ (List.mem_append_right _ (List.mem_append_right _ (List.mem_append_right _ (List.mem_append_left _ h)))))))))))))))))))))))))))))))))))))))))))))))))))))
theorem mwsX20 : ∀ w ∈ wsX20, w ∈ GW := fun _ h => (List.mem_append_right _ (List.mem_append_right _ (List.mem_append_right _ (List.mem_append_right _ (List.mem_append_right _ (List.mem_append_right _ (List.mem_append_right _ (List.mem_append_right _ (List.mem_append_right _ (List.mem_append_right _ (List.mem_append_right _ (List.mem_append_right _ (List.mem_append_right _ (List.mem_append_right _ (List.mem_append_right _ (List.mem_append_right _ (List.mem_append_right _ (List.mem_append_right _ (List.mem_append_right _ (List.mem_append_right _ (List.mem_append_right _ (List.mem_append_right _ (List.mem_append_right _ (List.mem_append_right _ (List.mem_append_right _ (List.mem_append_right _ (List.mem_append_right _ (List.mem_append_right _ (List.mem_append_right _ (List.mem_append_right _ (List.mem_append_right _ (List.mem_append_right _ (List.mem_append_right _ (List.mem_append_right _ (List.mem_append_right _ (List.mem_append_right _ (List.mem_append_right _ (List.mem_append_right _ (List.mem_append_right _ (List.mem_append_right _ (List.mem_append_right _ (List.mem_append_right _ (List.mem_append_right _ (List.mem_append_right _ (List.mem_append_right _ (List.mem_append_right _ (List.mem_append_right _ (List.mem_append_right _ (List.mem_append_right _ (List.mem_append_right _ (List.mem_append_right _ (List.mem_append_right _ (List.mem_append_right _ (List.mem_append_left _ h))))))))))))))))))))))))))))))))))))))))))))))))))))))
theorem mwsX30 : ∀ w ∈ wsX30, w ∈ GW := fun _ h => (List.mem_append_right _ (List.mem_append_right _ (List.mem_append_right _ (List.mem_append_right _ (List.mem_append_right _ (List.mem_append_right _ (List.mem_append_right _ (List.mem_append_right _ (List.mem_append_right _ (List.mem_append_right _ (List.mem_append_right _ (List.mem_append_right _ (List.mem_append_right _ (List.mem_append_right _ (List.mem_append_right _ (List.mem_append_right _ (List.mem_append_right _ (List.mem_append_right _ (List.mem_append_right _ (List.mem_append_right _ (List.mem_append_right _ (List.mem_append_right _ (List.mem_append_right _ (List.mem_append_right _ (List.mem_append_right _ (List.mem_append_right _ (List.mem_append_right _ (List.mem_append_right _ (List.mem_append_right _ (List.mem_append_right _ (List.mem_append_right _ (List.mem_append_right _ (List.mem_append_right _ (List.mem_append_right _ (List.mem_append_right _ (List.mem_append_right _ (List.mem_append_right _ (List.mem_append_right _ (List.mem_append_right _ (List.mem_append_right _ (List.mem_append_right _ (List.mem_append_right _ (List.mem_append_right _ (List.mem_append_right _ (List.mem_append_right _ (List.mem_append_right _ (List.mem_append_right _ (List.mem_append_right _ (List.mem_append_right _ (List.mem_append_right _ (List.mem_append_right _ (List.mem_append_right _ (List.mem_append_right _ (List.mem_append_right _ (List.mem_append_left _ h)))))))))))))))))))))))))))))))))))))))))))))))))))))))
theorem mwsX40 : ∀ w ∈ wsX40, w ∈ GW := fun _ h => (List.mem_append_right _ (List.mem_append_right _ (List.mem_append_right _ (List.mem_append_right _ (List.mem_append_right _ (List.mem_append_right _ (List.mem_append_right _ (List.mem_append_right _ (List.mem_append_right _ (List.mem_append_right _ (List.mem_append_right _ (List.mem_append_right _ (List.mem_append_right _ (List.mem_append_right _ (List.mem_append_right _ (List.mem_append_right _ (List.mem_append_right _ (List.mem_append_right _ (List.mem_append_right _ (List.mem_append_right _ (List.mem_append_right _ (List.mem_append_right _ (List.mem_append_right _ (List.mem_append_right _ (List.mem_append_right _ (List.mem_append_right _ (List.mem_append_right _ (List.mem_append_right _ (List.mem_append_right _ (List.mem_append_right _ (List.mem_append_right _ (List.mem_append_right _ (List.mem_append_right _ (List.mem_append_right _ (List.mem_append_right _ (List.mem_append_right _ (List.mem_append_right _ (List.mem_append_right _ (List.mem_append_right _ (List.mem_append_right _ (List.mem_append_right _ (List.mem_append_right _ (List.mem_append_right _ (List.mem_append_right _ (List.mem_append_right _ (List.mem_append_right _ (List.mem_append_right _ (List.mem_append_right _ (List.mem_append_right _ (List.mem_append_right _ (List.mem_append_right _ (List.mem_append_right _ (List.mem_append_right _ (List.mem_append_right _ (List.mem_append_right _ (List.mem_append_left _ h))))))))))))))))))))))))))))))))))))))))))))))))))))))))
theorem mwsX50 : ∀ w ∈ wsX50, w ∈ GW := fun _ h => (List.mem_append_right _ (List.mem_append_right _ (List.mem_append_right _ (List.mem_append_right _ (List.mem_append_right _ (List.mem_append_right _ (List.mem_append_right _ (List.mem_append_right _ (List.mem_append_right _ (List.mem_append_right _ (List.mem_append_right _ (List.mem_append_right _ (List.mem_append_right _ (List.mem_append_right _ (List.mem_append_right _ (List.mem_append_right _ (List.mem_append_right _ (List.mem_append_right _ (List.mem_append_right _ (List.mem_append_right _ (List.mem_append_right _ (List.mem_append_right _ (List.mem_append_right _ (List.mem_append_right _ (List.mem_append_right _ (List.mem_append_right _ (List.mem_append_right _ (List.mem_append_right _ (List.mem_append_right _ (List.mem_append_right _ (List.mem_append_right _ (List.mem_append_right _ (List.mem_append_right _ (List.mem_append_right _ (List.mem_append_right _ (List.mem_append_right _ (List.mem_append_right _ (List.mem_append_right _ (List.mem_append_right _ (List.mem_append_right _ (List.mem_append_right _ (List.mem_append_right _ (List.mem_append_right _ (List.mem_append_right _ (List.mem_append_right _ (List.mem_append_right _ (List.mem_append_right _ (List.mem_append_right _ (List.mem_append_right _ (List.mem_append_right _ (List.mem_append_right _ (List.mem_append_right _ (List.mem_append_right _ (List.mem_append_right _ (List.mem_append_right _ (List.mem_append_right _ (List.mem_append_left _ h)))))))))))))))))))))))))))))))))))))))))))))))))))))))))
theorem mwsX60 : ∀ w ∈ wsX60, w ∈ GW := fun _ h => (List.mem_append_right _ (List.mem_append_right _ (List.mem_append_right _ (List.mem_append_right _ (List.mem_append_right _ (List.mem_append_right _ (List.mem_append_right _ (List.mem_append_right _ (List.mem_append_right _ (List.mem_append_right _ (List.mem_append_right _ (List.mem_append_right _ (List.mem_append_right _ (List.mem_append_right _ (List.mem_append_right _ (List.mem_append_right _ (List.mem_append_right _ (List.mem_append_right _ (List.mem_append_right _ (List.mem_append_right _ (List.mem_append_right _ (List.mem_append_right _ (List.mem_append_right _ (List.mem_append_right _ (List.mem_append_right _ (List.mem_append_right _ (List.mem_append_right _ (List.mem_append_right _ (List.mem_append_right _ (List.mem_append_right _ (List.mem_append_right _ (List.mem_append_right _ (List.mem_append_right _ (List.mem_append_right _ (List.mem_append_right _ (List.mem_append_right _ (List.mem_append_right _ (List.mem_append_right _ (List.mem_append_right _ (List.mem_append_right _ (List.mem_append_right _ (List.mem_append_right _ (List.mem_append_right _ (List.mem_append_right _ (List.mem_append_right _ (List.mem_append_right _ (List.mem_append_right _ (List.mem_append_right _ (List.mem_append_right _ (List.mem_append_right _ (List.mem_append_right _ (List.mem_append_right _ (List.mem_append_right _ (List.mem_append_right _ (List.mem_append_right _ (List.mem_append_right _ (List.mem_append_right _ (List.mem_append_left _ h))))))))))))))))))))))))))))))))))))))))))))))))))))))))))
theorem mwsX70 : ∀ w ∈ wsX70, w ∈ GW := fun _ h => (List.mem_append_right _ (List.mem_append_right _ (List.mem_append_right _ (List.mem_append_right _ (List.mem_append_right _ (List.mem_append_right _ (List.mem_append_right _ (List.mem_append_right _ (List.mem_append_right _ (List.mem_append_right _ (List.mem_append_right _ (List.mem_append_right _ (List.mem_append_right _ (List.mem_append_right _ (List.mem_append_right _ (List.mem_append_right _ (List.mem_append_right _ (List.mem_append_right _ (List.mem_append_right _ (List.mem_append_right _ (List.mem_append_right _ (List.mem_append_right _ (List.mem_append_right _ (List.mem_append_right _ (List.mem_append_right _ (List.mem_append_right _ (List.mem_append_right _ (List.mem_append_right _ (List.mem_append_right _ (List.mem_append_right _ (List.mem_append_right _ (List.mem_append_right _ (List.mem_append_right _ (List.mem_append_right _ (List.mem_append_right _ (List.mem_append_right _ (List.mem_append_right _ (List.mem_append_right _ (List.mem_append_right _ (List.mem_append_right _ (List.mem_append_right _ (List.mem_append_right _ (List.mem_append_right _ (List.mem_append_right _ (List.mem_append_right _ (List.mem_append_right _ (List.mem_append_right _ (List.mem_append_right _ (List.mem_append_right _ (List.mem_append_right _ (List.mem_append_right _ (List.mem_append_right _ (List.mem_append_right _ (List.mem_append_right _ (List.mem_append_right _ (List.mem_append_right _ (List.mem_append_right _ (List.mem_append_right _ (List.mem_append_left _ h)))))))))))))))))))))))))))))))))))))))))))))))))))))))))))
theorem mwsX80 : ∀ w ∈ wsX80, w ∈ GW := fun _ h => (List.mem_append_right _ (List.mem_append_right _ (List.mem_append_right _ (List.mem_append_right _ (List.mem_append_right _ (List.mem_append_right _ (List.mem_append_right _ (List.mem_append_right _ (List.mem_append_right _ (List.mem_append_right _ (List.mem_append_right _ (List.mem_append_right _ (List.mem_append_right _ (List.mem_append_right _ (List.mem_append_right _ (List.mem_append_right _ (List.mem_append_right _ (List.mem_append_right _ (List.mem_append_right _ (List.mem_append_right _ (List.mem_append_right _ (List.mem_append_right _ (List.mem_append_right _ (List.mem_append_right _ (List.mem_append_right _ (List.mem_append_right _ (List.mem_append_right _ (List.mem_append_right _ (List.mem_append_right _ (List.mem_append_right _ (List.mem_append_right _ (List.mem_append_right _ (List.mem_append_right _ (List.mem_append_right _ (List.mem_append_right _ (List.mem_append_right _ (List.mem_append_right _ (List.mem_append_right _ (List.mem_append_right _ (List.mem_append_right _ (List.mem_append_right _ (List.mem_append_right _ (List.mem_append_right _ (List.mem_append_right _ (List.mem_append_right _ (List.mem_append_right _ (List.mem_append_right _ (List.mem_append_right _ (List.mem_append_right _ (List.mem_append_right _ (List.mem_append_right _ (List.mem_append_right _ (List.mem_append_right _ (List.mem_append_right _ (List.mem_append_right _ (List.mem_append_right _ (List.mem_append_right _ (List.mem_append_right _ (List.mem_append_right _ (List.mem_append_left _ h))))))))))))))))))))))))))))))))))))))))))))))))))))))))))))
theorem mwsX90 : ∀ w ∈ wsX90, w ∈ GW := fun _ h => (List.mem_append_right _ (List.mem_append_right _ (List.mem_append_right _ (List.mem_append_right _ (List.mem_append_right _ (List.mem_append_right _ (List.mem_append_right _ (List.mem_append_right _ (List.mem_append_right _ (List.mem_append_right _ (List.mem_append_right _ (List.mem_append_right _ (List.mem_append_right _ (List.mem_append_right _ (List.mem_append_right _ (List.mem_append_right _ (List.mem_append_right _ (List.mem_append_right _ (List.mem_append_right _ (List.mem_append_right _ (List.mem_append_right _ (List.mem_append_right _ (List.mem_append_right _ (List.mem_append_right _ (List.mem_append_right _ (List.mem_append_right _ (List.mem_append_right _ (List.mem_append_right _ (List.mem_append_right _ (List.mem_append_right _ (List.mem_append_right _ (List.mem_append_right _ (List.mem_append_right _ (List.mem_append_right _ (List.mem_append_right _ (List.mem_append_right _ (List.mem_append_right _ (List.mem_append_right _ (List.mem_append_right _ (List.mem_append_right _ (List.mem_append_right _ (List.mem_append_right _ (List.mem_append_right _ (List.mem_append_right _ (List.mem_append_right _ (List.mem_append_right _ (List.mem_append_right _ (List.mem_append_right _ (List.mem_append_right _ (List.mem_append_right _ (List.mem_append_right _ (List.mem_append_right _ (List.mem_append_right _ (List.mem_append_right _ (List.mem_append_right _ (List.mem_append_right _ (List.mem_append_right _ (List.mem_append_right _ (List.mem_append_right _ (List.mem_append_right _ (List.mem_append_left _ h)))))))))))))))))))))))))))))))))))))))))))))))))))))))))))))
theorem mwsX100 : ∀ w ∈ wsX100, w ∈ GW := fun _ h => (List.mem_append_right _ (List.mem_append_right _ (List.mem_append_right _ (List.mem_append_right _ (List.mem_append_right _ (List.mem_append_right _ (List.mem_append_right _ (List.mem_append_right _ (List.mem_append_right _ (List.mem_append_right _ (List.mem_append_right _ (List.mem_append_right _ (List.mem_append_right _ (List.mem_append_right _ (List.mem_append_right _ (List.mem_append_right _ (List.mem_append_right _ (List.mem_append_right _ (List.mem_append_right _ (List.mem_append_right _ (List.mem_append_right _ (List.mem_append_right _ (List.mem_append_right _ (List.mem_append_right _ (List.mem_append_right _ (List.mem_append_right _ (List.mem_append_right _ (List.mem_append_right _ (List.mem_append_right _ (List.mem_append_right _ (List.mem_append_right _ (List.mem_append_right _ (List.mem_append_right _ (List.mem_append_right _ (List.mem_append_right _ (List.mem_append_right _ (List.mem_append_right _ (List.mem_append_right _ (List.mem_append_right _ (List.mem_append_right _ (List.mem_append_right _ (List.mem_append_right _ (List.mem_append_right _ (List.mem_append_right _ (List.mem_append_right _ (List.mem_append_right _ (List.mem_append_right _ (List.mem_append_right _ (List.mem_append_right _ (List.mem_append_right _ (List.mem_append_right _ (List.mem_append_right _ (List.mem_append_right _ (List.mem_append_right _ (List.mem_append_right _ (List.mem_append_right _ (List.mem_append_right _ (List.mem_append_right _ (List.mem_append_right _ (List.mem_append_right _ (List.mem_append_right _ (List.mem_append_left _ h))))))))))))))))))))))))))))))))))))))))))))))))))))))))))))))
theorem mwsJx4a65c0 : ∀ w ∈ wsJx4a65c0, w ∈ GW := fun _ h => (List.mem_append_right _ (List.mem_append_right _ (List.mem_append_right _ (List.mem_append_right _ (List.mem_append_right _ (List.mem_append_right _ (List.mem_append_right _ (List.mem_append_right _ (List.mem_append_right _ (List.mem_append_right _ (List.mem_append_right _ (List.mem_append_right _ (List.mem_append_right _ (List.mem_append_right _ (List.mem_append_right _ (List.mem_append_right _ (List.mem_append_right _ (List.mem_append_right _ (List.mem_append_right _ (List.mem_append_right _ (List.mem_append_right _ (List.mem_append_right _ (List.mem_append_right _ (List.mem_append_right _ (List.mem_append_right _ (List.mem_append_right _ (List.mem_append_right _ (List.mem_append_right _ (List.mem_append_right _ (List.mem_append_right _ (List.mem_append_right _ (List.mem_append_right _ (List.mem_append_right _ (List.mem_append_right _ (List.mem_append_right _ (List.mem_append_right _ (List.mem_append_right _ (List.mem_append_right _ (List.mem_append_right _ (List.mem_append_right _ (List.mem_append_right _ (List.mem_append_right _ (List.mem_append_right _ (List.mem_append_right _ (List.mem_append_right _ (List.mem_append_right _ (List.mem_append_right _ (List.mem_append_right _ (List.mem_append_right _ (List.mem_append_right _ (List.mem_append_right _ (List.mem_append_right _ (List.mem_append_right _ (List.mem_append_right _ (List.mem_append_right _ (List.mem_append_right _ (List.mem_append_right _ (List.mem_append_right _ (List.mem_append_right _ (List.mem_append_right _ (List.mem_append_right _ (List.mem_append_right _ (List.mem_append_left _ h)))))))))))))))))))))))))))))))))))))))))))))))))))))))))))))))
theorem mGT0 : ∀ w ∈ GT0, w ∈ GW := fun _ h => (List.mem_append_right _ (List.mem_append_right _ (List.mem_append_right _ (List.mem_append_right _ (List.mem_append_right _ (List.mem_append_right _ (List.mem_append_right _ (List.mem_append_right _ (List.mem_append_right _ (List.mem_append_right _ (List.mem_append_right _ (List.mem_append_right _ (List.mem_append_right _ (List.mem_append_right _ (List.mem_append_right _ (List.mem_append_right _ (List.mem_append_right _ (List.mem_append_right _ (List.mem_append_right _ (List.mem_append_right _ (List.mem_append_right _ (List.mem_append_right _ (List.mem_append_right _ (List.mem_append_right _ (List.mem_append_right _ (List.mem_append_right _ (List.mem_append_right _ (List.mem_append_right _ (List.mem_append_right _ (List.mem_append_right _ (List.mem_append_right _ (List.mem_append_right _ (List.mem_append_right _ (List.mem_append_right _ (List.mem_append_right _ (List.mem_append_right _ (List.mem_append_right _ (List.mem_append_right _ (List.mem_append_right _ (List.mem_append_right _ (List.mem_append_right _ (List.mem_append_right _ (List.mem_append_right _ (List.mem_append_right _ (List.mem_append_right _ (List.mem_append_right _ (List.mem_append_right _ (List.mem_append_right _ (List.mem_append_right _ (List.mem_append_right _ (List.mem_append_right _ (List.mem_append_right _ (List.mem_append_right _ (List.mem_append_right _ (List.mem_append_right _ (List.mem_append_right _ (List.mem_append_right _ (List.mem_append_right _ (List.mem_append_right _ (List.mem_append_right _ (List.mem_append_right _ (List.mem_append_right _ (List.mem_append_right _ (List.mem_append_left _ h))))))))))))))))))))))))))))))))))))))))))))))))))))))))))))))))
theorem mGT1 : ∀ w ∈ GT1, w ∈ GW := fun _ h => (List.mem_append_right _ (List.mem_append_right _ (List.mem_append_right _ (List.mem_append_right _ (List.mem_append_right _ (List.mem_append_right _ (List.mem_append_right _ (List.mem_append_right _ (List.mem_append_right _ (List.mem_append_right _ (List.mem_append_right _ (List.mem_append_right _ (List.mem_append_right _ (List.mem_append_right _ (List.mem_append_right _ (List.mem_append_right _ (List.mem_append_right _ (List.mem_append_right _ (List.mem_append_right _ (List.mem_append_right _ (List.mem_append_right _ (List.mem_append_right _ (List.mem_append_right _ (List.mem_append_right _ (List.mem_append_right _ (List.mem_append_right _ (List.mem_append_right _ (List.mem_append_right _ (List.mem_append_right _ (List.mem_append_right _ (List.mem_append_right _ (List.mem_append_right _ (List.mem_append_right _ (List.mem_append_right _ (List.mem_append_right _ (List.mem_append_right _ (List.mem_append_right _ (List.mem_append_right _ (List.mem_append_right _ (List.mem_append_right _ (List.mem_append_right _ (List.mem_append_right _ (List.mem_append_right _ (List.mem_append_right _ (List.mem_append_right _ (List.mem_append_right _ (List.mem_append_right _ (List.mem_append_right _ (List.mem_append_right _ (List.mem_append_right _ (List.mem_append_right _ (List.mem_append_right _ (List.mem_append_right _ (List.mem_append_right _ (List.mem_append_right _ (List.mem_append_right _ (List.mem_append_right _ (List.mem_append_right _ (List.mem_append_right _ (List.mem_append_right _ (List.mem_append_right _ (List.mem_append_right _ (List.mem_append_right _ (List.mem_append_right _ (List.mem_append_left _ h)))))))))))))))))))))))))))))))))))))))))))))))))))))))))))))))))
theorem mGT2 : ∀ w ∈ GT2, w ∈ GW := fun _ h => (List.mem_append_right _ (List.mem_append_right _ (List.mem_append_right _ (List.mem_append_right _ (List.mem_append_right _ (List.mem_append_right _ (List.mem_append_right _ (List.mem_append_right _ (List.mem_append_right _ (List.mem_append_right _ (List.mem_append_right _ (List.mem_append_right _ (List.mem_append_right _ (List.mem_append_right _ (List.mem_append_right _ (List.mem_append_right _ (List.mem_append_right _ (List.mem_append_right _ (List.mem_append_right _ (List.mem_append_right _ (List.mem_append_right _ (List.mem_append_right _ (List.mem_append_right _ (List.mem_append_right _ (List.mem_append_right _ (List.mem_append_right _ (List.mem_append_right _ (List.mem_append_right _ (List.mem_append_right _ (List.mem_append_right _ (List.mem_append_right _ (List.mem_append_right _ (List.mem_append_right _ (List.mem_append_right _ (List.mem_append_right _ (List.mem_append_right _ (List.mem_append_right _ (List.mem_append_right _ (List.mem_append_right _ (List.mem_append_right _ (List.mem_append_right _ (List.mem_append_right _ (List.mem_append_right _ (List.mem_append_right _ (List.mem_append_right _ (List.mem_append_right _ (List.mem_append_right _ (List.mem_append_right _ (List.mem_append_right _ (List.mem_append_right _ (List.mem_append_right _ (List.mem_append_right _ (List.mem_append_right _ (List.mem_append_right _ (List.mem_append_right _ (List.mem_append_right _ (List.mem_append_right _ (List.mem_append_right _ (List.mem_append_right _ (List.mem_append_right _ (List.mem_append_right _ (List.mem_append_right _ (List.mem_append_right _ (List.mem_append_right _ (List.mem_append_right _ (List.mem_append_left _ h))))))))))))))))))))))))))))))))))))))))))))))))))))))))))))))))))
theorem mGT3 : ∀ w ∈ GT3, w ∈ GW := fun _ h => (List.mem_append_right _ (List.mem_append_right _ (List.mem_append_right _ (List.mem_append_right _ (List.mem_append_right _ (List.mem_append_right _ (List.mem_append_right _ (List.mem_append_right _ (List.mem_append_right _ (List.mem_append_right _ (List.mem_append_right _ (List.mem_append_right _ (List.mem_append_right _ (List.mem_append_right _ (List.mem_append_right _ (List.mem_append_right _ (List.mem_append_right _ (List.mem_append_right _ (List.mem_append_right _ (List.mem_append_right _ (List.mem_append_right _ (List.mem_append_right _ (List.mem_append_right _ (List.mem_append_right _ (List.mem_append_right _ (List.mem_append_right _ (List.mem_append_right _ (List.mem_append_right _ (List.mem_append_right _ (List.mem_append_right _ (List.mem_append_right _ (List.mem_append_right _ (List.mem_append_right _ (List.mem_append_right _ (List.mem_append_right _ (List.mem_append_right _ (List.mem_append_right _ (List.mem_append_right _ (List.mem_append_right _ (List.mem_append_right _ (List.mem_append_right _ (List.mem_append_right _ (List.mem_append_right _ (List.mem_append_right _ (List.mem_append_right _ (List.mem_append_right _ (List.mem_append_right _ (List.mem_append_right _ (List.mem_append_right _ (List.mem_append_right _ (List.mem_append_right _ (List.mem_append_right _ (List.mem_append_right _ (List.mem_append_right _ (List.mem_append_right _ (List.mem_append_right _ (List.mem_append_right _ (List.mem_append_right _ (List.mem_append_right _ (List.mem_append_right _ (List.mem_append_right _ (List.mem_append_right _ (List.mem_append_right _ (List.mem_append_right _ (List.mem_append_right _ (List.mem_append_right _ (List.mem_append_left _ h)))))))))))))))))))))))))))))))))))))))))))))))))))))))))))))))))))
theorem mGT4 : ∀ w ∈ GT4, w ∈ GW := fun _ h => (List.mem_append_right _ (List.mem_append_right _ (List.mem_append_right _ (List.mem_append_right _ (List.mem_append_right _ (List.mem_append_right _ (List.mem_append_right _ (List.mem_append_right _ (List.mem_append_right _ (List.mem_append_right _ (List.mem_append_right _ (List.mem_append_right _ (List.mem_append_right _ (List.mem_append_right _ (List.mem_append_right _ (List.mem_append_right _ (List.mem_append_right _ (List.mem_append_right _ (List.mem_append_right _ (List.mem_append_right _ (List.mem_append_right _ (List.mem_append_right _ (List.mem_append_right _ (List.mem_append_right _ (List.mem_append_right _ (List.mem_append_right _ (List.mem_append_right _ (List.mem_append_right _ (List.mem_append_right _ (List.mem_append_right _ (List.mem_append_right _ (List.mem_append_right _ (List.mem_append_right _ (List.mem_append_right _ (List.mem_append_right _ (List.mem_append_right _ (List.mem_append_right _ (List.mem_append_right _ (List.mem_append_right _ (List.mem_append_right _ (List.mem_append_right _ (List.mem_append_right _ (List.mem_append_right _ (List.mem_append_right _ (List.mem_append_right _ (List.mem_append_right _ (List.mem_append_right _ (List.mem_append_right _ (List.mem_append_right _ (List.mem_append_right _ (List.mem_append_right _ (List.mem_append_right _ (List.mem_append_right _ (List.mem_append_right _ (List.mem_append_right _ (List.mem_append_right _ (List.mem_append_right _ (List.mem_append_right _ (List.mem_append_right _ (List.mem_append_right _ (List.mem_append_right _ (List.mem_append_right _ (List.mem_append_right _ (List.mem_append_right _ (List.mem_append_right _ (List.mem_append_right _ (List.mem_append_right _ (List.mem_append_left _ h))))))))))))))))))))))))))))))))))))))))))))))))))))))))))))))))))))
theorem mGT5 : ∀ w ∈ GT5, w ∈ GW := fun _ h => (List.mem_append_right _ (List.mem_append_right _ (List.mem_append_right _ (List.mem_append_right _ (List.mem_append_right _ (List.mem_append_right _ (List.mem_append_right _ (List.mem_append_right _ (List.mem_append_right _ (List.mem_append_right _ (List.mem_append_right _ (List.mem_append_right _ (List.mem_append_right _ (List.mem_append_right _ (List.mem_append_right _ (List.mem_append_right _ (List.mem_append_right _ (List.mem_append_right _ (List.mem_append_right _ (List.mem_append_right _ (List.mem_append_right _ (List.mem_append_right _ (List.mem_append_right _ (List.mem_append_right _ (List.mem_append_right _ (List.mem_append_right _ (List.mem_append_right _ (List.mem_append_right _ (List.mem_append_right _ (List.mem_append_right _ (List.mem_append_right _ (List.mem_append_right _ (List.mem_append_right _ (List.mem_append_right _ (List.mem_append_right _ (List.mem_append_right _ (List.mem_append_right _ (List.mem_append_right _ (List.mem_append_right _ (List.mem_append_right _ (List.mem_append_right _ (List.mem_append_right _ (List.mem_append_right _ (List.mem_append_right _ (List.mem_append_right _ (List.mem_append_right _ (List.mem_append_right _ (List.mem_append_right _ (List.mem_append_right _ (List.mem_append_right _ (List.mem_append_right _ (List.mem_append_right _ (List.mem_append_right _ (List.mem_append_right _ (List.mem_append_right _ (List.mem_append_right _ (List.mem_append_right _ (List.mem_append_right _ (List.mem_append_right _ (List.mem_append_right _ (List.mem_append_right _ (List.mem_append_right _ (List.mem_append_right _ (List.mem_append_right _ (List.mem_append_right _ (List.mem_append_right _ (List.mem_append_right _ (List.mem_append_right _ h))))))))))))))))))))))))))))))))))))))))))))))))))))))))))))))))))))
theorem gw_0_0 : Cond.code yJxa1e45_init_da8c8 cJxa1e45_init_da8c8 1 none ∈ GW := mGA0 _ (List.mem_of_getElem? (i := 0) rfl)
theorem gw_0_1 : Cond.methodLink RJxa1e45 1 objectInit ∈ GW := mGA0 _ (List.mem_of_getElem? (i := 1) rfl)
theorem gw_0_2 : Cond.instanceMethod objectInit ∈ GW := mGA0 _ (List.mem_of_getElem? (i := 2) rfl)
theorem gw_0_3 : Cond.code objectInit ⟨#[0xb1]⟩ 1 none ∈ GW := mGA0 _ (List.mem_of_getElem? (i := 3) rfl)
theorem gw_0_4 : Cond.code yJxc12de_init_da8c8 cJxc12de_init_da8c8 1 none ∈ GW := mGA0 _ (List.mem_of_getElem? (i := 4) rfl)
theorem gw_0_5 : Cond.fieldLink RJxc12de 7 "java/util/AbstractList" "modCount" "I" ∈ GW := mGA0 _ (List.mem_of_getElem? (i := 5) rfl)
theorem gw_0_6 : Cond.methodLink RJxc12de 1 yJxa1e45_init_da8c8 ∈ GW := mGA0 _ (List.mem_of_getElem? (i := 6) rfl)
theorem gw_0_7 : Cond.instanceMethod yJxa1e45_init_da8c8 ∈ GW := mGA0 _ (List.mem_of_getElem? (i := 7) rfl)
theorem gw_0_8 : Cond.initialized RJxa1e45 ∈ GW := mGA0 _ (List.mem_of_getElem? (i := 8) rfl)
theorem gw_0_9 : Cond.code yJx4a65c_init_da8c8 cJx4a65c_init_da8c8 1 none ∈ GW := mGA0 _ (List.mem_of_getElem? (i := 9) rfl)
theorem gw_0_10 : Cond.fieldLink RJx4a65c 39 "java/util/ArrayList" "DEFAULTCAPACITY_EMPTY_ELEMENTDATA" "[Ljava/lang/Object;" ∈ GW := mGA0 _ (List.mem_of_getElem? (i := 10) rfl)
theorem gw_0_11 : Cond.fieldLink RJx4a65c 9 "java/util/ArrayList" "elementData" "[Ljava/lang/Object;" ∈ GW := mGA0 _ (List.mem_of_getElem? (i := 11) rfl)
theorem gw_0_12 : Cond.methodLink RJx4a65c 1 yJxc12de_init_da8c8 ∈ GW := mGA0 _ (List.mem_of_getElem? (i := 12) rfl)
theorem gw_0_13 : Cond.instanceMethod yJxc12de_init_da8c8 ∈ GW := mGA0 _ (List.mem_of_getElem? (i := 13) rfl)
theorem gw_0_14 : Cond.initialized RJxc12de ∈ GW := mGA0 _ (List.mem_of_getElem? (i := 14) rfl)
theorem gw_0_15 : Cond.code yX5_init cX5_init 2 none ∈ GW := mGA0 _ (List.mem_of_getElem? (i := 15) rfl)
theorem gw_0_16 : Cond.methodLink RX5 1 objectInit ∈ GW := mGA0 _ (List.mem_of_getElem? (i := 16) rfl)
theorem gw_0_17 : Cond.arrayClass .int ∈ GW := mGA0 _ (List.mem_of_getElem? (i := 17) rfl)
theorem gw_0_18 : Cond.fieldLink RX5 7 "Housestyle$Row" "cells" "[I" ∈ GW := mGA0 _ (List.mem_of_getElem? (i := 18) rfl)
theorem gw_0_19 : Cond.fieldLink RX5 13 "Housestyle$Row" "count" "I" ∈ GW := mGA0 _ (List.mem_of_getElem? (i := 19) rfl)
theorem gw_0_20 : Cond.code yX0_init cX0_init 1 none ∈ GW := mGA0 _ (List.mem_of_getElem? (i := 20) rfl)
theorem gw_0_21 : Cond.methodLink RX0 3 objectInit ∈ GW := mGA0 _ (List.mem_of_getElem? (i := 21) rfl)
theorem gw_0_22 : Cond.classLink RX0 9 RJx4a65c ∈ GW := mGA0 _ (List.mem_of_getElem? (i := 22) rfl)
theorem gw_0_23 : Cond.instantiable RJx4a65c 3 ∈ GW := mGA0 _ (List.mem_of_getElem? (i := 23) rfl)
theorem gw_1_0 : Cond.initialized RJx4a65c ∈ GW := mGA1 _ (List.mem_of_getElem? (i := 0) rfl)
theorem gw_1_1 : Cond.fieldLink RX0 12 "Housestyle$Book" "rules" "Ljava/util/ArrayList;" ∈ GW := mGA1 _ (List.mem_of_getElem? (i := 1) rfl)
theorem gw_1_2 : Cond.fieldLink RX0 18 "Housestyle$Book" "pairs" "Ljava/util/ArrayList;" ∈ GW := mGA1 _ (List.mem_of_getElem? (i := 2) rfl)
theorem gw_1_3 : Cond.classLink RX0 21 RX5 ∈ GW := mGA1 _ (List.mem_of_getElem? (i := 3) rfl)
theorem gw_1_4 : Cond.instantiable RX5 2 ∈ GW := mGA1 _ (List.mem_of_getElem? (i := 4) rfl)
theorem gw_1_5 : Cond.initialized RX5 ∈ GW := mGA1 _ (List.mem_of_getElem? (i := 5) rfl)
theorem gw_1_6 : Cond.fieldLink RX0 26 "Housestyle$Book" "hits" "LHousestyle$Row;" ∈ GW := mGA1 _ (List.mem_of_getElem? (i := 6) rfl)
theorem gw_1_7 : Cond.methodLink RX0 11 yJx4a65c_init_da8c8 ∈ GW := mGA1 _ (List.mem_of_getElem? (i := 7) rfl)
theorem gw_1_8 : Cond.instanceMethod yJx4a65c_init_da8c8 ∈ GW := mGA1 _ (List.mem_of_getElem? (i := 8) rfl)
theorem gw_1_9 : Cond.methodLink RX0 23 yX5_init ∈ GW := mGA1 _ (List.mem_of_getElem? (i := 9) rfl)
theorem gw_1_10 : Cond.instanceMethod yX5_init ∈ GW := mGA1 _ (List.mem_of_getElem? (i := 10) rfl)
theorem gw_1_11 : Cond.code yX5_count cX5_count 1 (some .int) ∈ GW := mGA1 _ (List.mem_of_getElem? (i := 11) rfl)
theorem gw_1_12 : Cond.code yX8_count cX8_count 1 (some .int) ∈ GW := mGA1 _ (List.mem_of_getElem? (i := 12) rfl)
theorem gw_1_13 : Cond.fieldLink RX8 20 "Housestyle$Tokens" "froms" "LHousestyle$Row;" ∈ GW := mGA1 _ (List.mem_of_getElem? (i := 13) rfl)
theorem gw_1_14 : Cond.methodLink RX8 58 yX5_count ∈ GW := mGA1 _ (List.mem_of_getElem? (i := 14) rfl)
theorem gw_1_15 : Cond.instanceMethod yX5_count ∈ GW := mGA1 _ (List.mem_of_getElem? (i := 15) rfl)
theorem gw_1_16 : Cond.selects RX5 yX5_count yX5_count ∈ GW := mGA1 _ (List.mem_of_getElem? (i := 16) rfl)
theorem gw_1_17 : Cond.code yX5_reset cX5_reset 3 none ∈ GW := mGA1 _ (List.mem_of_getElem? (i := 17) rfl)
theorem gw_1_18 : Cond.code yJx4a65c_size_8abf5 cJx4a65c_size_8abf5 1 (some .int) ∈ GW := mGA1 _ (List.mem_of_getElem? (i := 18) rfl)
theorem gw_1_19 : Cond.fieldLink RJx4a65c 48 "java/util/ArrayList" "size" "I" ∈ GW := mGA1 _ (List.mem_of_getElem? (i := 19) rfl)
theorem gw_1_20 : Cond.code yJ3_checkIndex_8e157 cJ3_checkIndex_8e157 3 (some .int) ∈ GW := mGA1 _ (List.mem_of_getElem? (i := 20) rfl)
theorem gw_1_21 : Cond.code yJ15_checkIndex_7cf53 cJ15_checkIndex_7cf53 2 (some .int) ∈ GW := mGA1 _ (List.mem_of_getElem? (i := 21) rfl)
theorem gw_1_22 : Cond.methodLink RJ15 105 yJ3_checkIndex_8e157 ∈ GW := mGA1 _ (List.mem_of_getElem? (i := 22) rfl)
theorem gw_1_23 : Cond.static yJ3_checkIndex_8e157 ∈ GW := mGA1 _ (List.mem_of_getElem? (i := 23) rfl)
theorem gw_2_0 : Cond.initialized RJ3 ∈ GW := mGA2 _ (List.mem_of_getElem? (i := 0) rfl)
theorem gw_2_1 : Cond.code yJx4a65c_elementData_915e3 cJx4a65c_elementData_915e3 2 (some (.object "java/lang/Object")) ∈ GW := mGA2 _ (List.mem_of_getElem? (i := 1) rfl)
theorem gw_2_2 : Cond.code yJx4a65c_get_915e3 cJx4a65c_get_915e3 2 (some (.object "java/lang/Object")) ∈ GW := mGA2 _ (List.mem_of_getElem? (i := 2) rfl)
theorem gw_2_3 : Cond.methodLink RJx4a65c 118 yJ15_checkIndex_7cf53 ∈ GW := mGA2 _ (List.mem_of_getElem? (i := 3) rfl)
theorem gw_2_4 : Cond.static yJ15_checkIndex_7cf53 ∈ GW := mGA2 _ (List.mem_of_getElem? (i := 4) rfl)
theorem gw_2_5 : Cond.initialized RJ15 ∈ GW := mGA2 _ (List.mem_of_getElem? (i := 5) rfl)
theorem gw_2_6 : Cond.methodLink RJx4a65c 123 yJx4a65c_elementData_915e3 ∈ GW := mGA2 _ (List.mem_of_getElem? (i := 6) rfl)
theorem gw_2_7 : Cond.instanceMethod yJx4a65c_elementData_915e3 ∈ GW := mGA2 _ (List.mem_of_getElem? (i := 7) rfl)
theorem gw_2_8 : Cond.selects RJx4a65c yJx4a65c_elementData_915e3 yJx4a65c_elementData_915e3 ∈ GW := mGA2 _ (List.mem_of_getElem? (i := 8) rfl)
theorem gw_2_9 : Cond.code yX5_get cX5_get 2 (some .int) ∈ GW := mGA2 _ (List.mem_of_getElem? (i := 9) rfl)
theorem gw_2_10 : Cond.code yX8_isQuoted cX8_isQuoted 2 (some .boolean) ∈ GW := mGA2 _ (List.mem_of_getElem? (i := 10) rfl)
theorem gw_2_11 : Cond.fieldLink RX8 32 "Housestyle$Tokens" "quoted" "LHousestyle$Row;" ∈ GW := mGA2 _ (List.mem_of_getElem? (i := 11) rfl)
theorem gw_2_12 : Cond.methodLink RX8 62 yX5_get ∈ GW := mGA2 _ (List.mem_of_getElem? (i := 12) rfl)
theorem gw_2_13 : Cond.instanceMethod yX5_get ∈ GW := mGA2 _ (List.mem_of_getElem? (i := 13) rfl)
theorem gw_2_14 : Cond.selects RX5 yX5_get yX5_get ∈ GW := mGA2 _ (List.mem_of_getElem? (i := 14) rfl)
theorem gw_2_15 : Cond.code yX8_isFirst cX8_isFirst 2 (some .boolean) ∈ GW := mGA2 _ (List.mem_of_getElem? (i := 15) rfl)
theorem gw_2_16 : Cond.fieldLink RX8 35 "Housestyle$Tokens" "first" "LHousestyle$Row;" ∈ GW := mGA2 _ (List.mem_of_getElem? (i := 16) rfl)
theorem gw_2_17 : Cond.code yX8_goesOn cX8_goesOn 3 (some .boolean) ∈ GW := mGA2 _ (List.mem_of_getElem? (i := 17) rfl)
theorem gw_2_18 : Cond.fieldLink RX8 23 "Housestyle$Tokens" "ends" "LHousestyle$Row;" ∈ GW := mGA2 _ (List.mem_of_getElem? (i := 18) rfl)
theorem gw_2_19 : Cond.fieldLink RX8 9 "Housestyle$Tokens" "signs" "LHousestyle$Row;" ∈ GW := mGA2 _ (List.mem_of_getElem? (i := 19) rfl)
theorem gw_2_20 : Cond.methodLink RX8 90 yX8_count ∈ GW := mGA2 _ (List.mem_of_getElem? (i := 20) rfl)
theorem gw_2_21 : Cond.instanceMethod yX8_count ∈ GW := mGA2 _ (List.mem_of_getElem? (i := 21) rfl)
theorem gw_2_22 : Cond.selects RX8 yX8_count yX8_count ∈ GW := mGA2 _ (List.mem_of_getElem? (i := 22) rfl)
theorem gw_2_23 : Cond.initialized RX8 ∈ GW := mGA2 _ (List.mem_of_getElem? (i := 23) rfl)
theorem gw_3_0 : Cond.code yX8_isNumber cX8_isNumber 2 (some .boolean) ∈ GW := mGA3 _ (List.mem_of_getElem? (i := 0) rfl)
theorem gw_3_1 : Cond.fieldLink RX8 26 "Housestyle$Tokens" "kinds" "LHousestyle$Row;" ∈ GW := mGA3 _ (List.mem_of_getElem? (i := 1) rfl)
theorem gw_3_2 : Cond.code yX8_isWord cX8_isWord 2 (some .boolean) ∈ GW := mGA3 _ (List.mem_of_getElem? (i := 2) rfl)
theorem gw_3_3 : Cond.code yX8_begins cX8_begins 5 (some .boolean) ∈ GW := mGA3 _ (List.mem_of_getElem? (i := 3) rfl)
theorem gw_3_4 : Cond.code yX8_lengthOf cX8_lengthOf 2 (some .int) ∈ GW := mGA3 _ (List.mem_of_getElem? (i := 4) rfl)
theorem gw_3_5 : Cond.code yX3_fits cX3_fits 3 (some .boolean) ∈ GW := mGA3 _ (List.mem_of_getElem? (i := 5) rfl)
theorem gw_3_6 : Cond.fieldLink RX3 13 "Housestyle$Item" "isNumber" "Z" ∈ GW := mGA3 _ (List.mem_of_getElem? (i := 6) rfl)
theorem gw_3_7 : Cond.fieldLink RX3 26 "Housestyle$Item" "letters" "LHousestyle$Row;" ∈ GW := mGA3 _ (List.mem_of_getElem? (i := 7) rfl)
theorem gw_3_8 : Cond.fieldLink RX3 19 "Housestyle$Item" "hasStar" "Z" ∈ GW := mGA3 _ (List.mem_of_getElem? (i := 8) rfl)
theorem gw_3_9 : Cond.methodLink RX3 36 yX8_isNumber ∈ GW := mGA3 _ (List.mem_of_getElem? (i := 9) rfl)
theorem gw_3_10 : Cond.instanceMethod yX8_isNumber ∈ GW := mGA3 _ (List.mem_of_getElem? (i := 10) rfl)
theorem gw_3_11 : Cond.selects RX8 yX8_isNumber yX8_isNumber ∈ GW := mGA3 _ (List.mem_of_getElem? (i := 11) rfl)
theorem gw_3_12 : Cond.methodLink RX3 41 yX8_isWord ∈ GW := mGA3 _ (List.mem_of_getElem? (i := 12) rfl)
theorem gw_3_13 : Cond.instanceMethod yX8_isWord ∈ GW := mGA3 _ (List.mem_of_getElem? (i := 13) rfl)
theorem gw_3_14 : Cond.selects RX8 yX8_isWord yX8_isWord ∈ GW := mGA3 _ (List.mem_of_getElem? (i := 14) rfl)
theorem gw_3_15 : Cond.methodLink RX3 43 yX8_begins ∈ GW := mGA3 _ (List.mem_of_getElem? (i := 15) rfl)
theorem gw_3_16 : Cond.instanceMethod yX8_begins ∈ GW := mGA3 _ (List.mem_of_getElem? (i := 16) rfl)
theorem gw_3_17 : Cond.selects RX8 yX8_begins yX8_begins ∈ GW := mGA3 _ (List.mem_of_getElem? (i := 17) rfl)
theorem gw_3_18 : Cond.methodLink RX3 47 yX8_lengthOf ∈ GW := mGA3 _ (List.mem_of_getElem? (i := 18) rfl)
theorem gw_3_19 : Cond.instanceMethod yX8_lengthOf ∈ GW := mGA3 _ (List.mem_of_getElem? (i := 19) rfl)
theorem gw_3_20 : Cond.selects RX8 yX8_lengthOf yX8_lengthOf ∈ GW := mGA3 _ (List.mem_of_getElem? (i := 20) rfl)
theorem gw_3_21 : Cond.methodLink RX3 50 yX5_count ∈ GW := mGA3 _ (List.mem_of_getElem? (i := 21) rfl)
theorem gw_3_22 : Cond.code yX8_aheadOf cX8_aheadOf 2 (some .int) ∈ GW := mGA3 _ (List.mem_of_getElem? (i := 22) rfl)
theorem gw_3_23 : Cond.fieldLink RX8 38 "Housestyle$Tokens" "ahead" "LHousestyle$Row;" ∈ GW := mGA3 _ (List.mem_of_getElem? (i := 23) rfl)
theorem gw_4_0 : Cond.code yX8_isThe cX8_isThe 3 (some .boolean) ∈ GW := mGA4 _ (List.mem_of_getElem? (i := 0) rfl)
theorem gw_4_1 : Cond.methodLink RX8 100 yX8_lengthOf ∈ GW := mGA4 _ (List.mem_of_getElem? (i := 1) rfl)
theorem gw_4_2 : Cond.methodLink RX8 103 yX8_begins ∈ GW := mGA4 _ (List.mem_of_getElem? (i := 2) rfl)
theorem gw_4_3 : Cond.code yX6_isExcepted cX6_isExcepted 5 (some .boolean) ∈ GW := mGA4 _ (List.mem_of_getElem? (i := 3) rfl)
theorem gw_4_4 : Cond.fieldLink RX6 49 "Housestyle$Rule" "exceptions" "Ljava/util/ArrayList;" ∈ GW := mGA4 _ (List.mem_of_getElem? (i := 4) rfl)
theorem gw_4_5 : Cond.classLink RX6 19 "Housestyle$Row" ∈ GW := mGA4 _ (List.mem_of_getElem? (i := 5) rfl)
theorem gw_4_6 : Cond.methodLink RX6 90 yX8_aheadOf ∈ GW := mGA4 _ (List.mem_of_getElem? (i := 6) rfl)
theorem gw_4_7 : Cond.instanceMethod yX8_aheadOf ∈ GW := mGA4 _ (List.mem_of_getElem? (i := 7) rfl)
theorem gw_4_8 : Cond.selects RX8 yX8_aheadOf yX8_aheadOf ∈ GW := mGA4 _ (List.mem_of_getElem? (i := 8) rfl)
theorem gw_4_9 : Cond.methodLink RX6 74 yJx4a65c_size_8abf5 ∈ GW := mGA4 _ (List.mem_of_getElem? (i := 9) rfl)
theorem gw_4_10 : Cond.instanceMethod yJx4a65c_size_8abf5 ∈ GW := mGA4 _ (List.mem_of_getElem? (i := 10) rfl)
theorem gw_4_11 : Cond.selects RJx4a65c yJx4a65c_size_8abf5 yJx4a65c_size_8abf5 ∈ GW := mGA4 _ (List.mem_of_getElem? (i := 11) rfl)
theorem gw_4_12 : Cond.methodLink RX6 80 yJx4a65c_get_915e3 ∈ GW := mGA4 _ (List.mem_of_getElem? (i := 12) rfl)
theorem gw_4_13 : Cond.instanceMethod yJx4a65c_get_915e3 ∈ GW := mGA4 _ (List.mem_of_getElem? (i := 13) rfl)
theorem gw_4_14 : Cond.selects RJx4a65c yJx4a65c_get_915e3 yJx4a65c_get_915e3 ∈ GW := mGA4 _ (List.mem_of_getElem? (i := 14) rfl)
theorem gw_4_15 : Cond.methodLink RX6 93 yX8_isThe ∈ GW := mGA4 _ (List.mem_of_getElem? (i := 15) rfl)
theorem gw_4_16 : Cond.instanceMethod yX8_isThe ∈ GW := mGA4 _ (List.mem_of_getElem? (i := 16) rfl)
theorem gw_4_17 : Cond.selects RX8 yX8_isThe yX8_isThe ∈ GW := mGA4 _ (List.mem_of_getElem? (i := 17) rfl)
theorem gw_4_18 : Cond.code yX6_isFoundAt cX6_isFoundAt 4 (some .boolean) ∈ GW := mGA4 _ (List.mem_of_getElem? (i := 18) rfl)
theorem gw_4_19 : Cond.fieldLink RX6 41 "Housestyle$Rule" "inQuotes" "Z" ∈ GW := mGA4 _ (List.mem_of_getElem? (i := 19) rfl)
theorem gw_4_20 : Cond.fieldLink RX6 37 "Housestyle$Rule" "condition" "C" ∈ GW := mGA4 _ (List.mem_of_getElem? (i := 20) rfl)
theorem gw_4_21 : Cond.fieldLink RX6 12 "Housestyle$Rule" "items" "Ljava/util/ArrayList;" ∈ GW := mGA4 _ (List.mem_of_getElem? (i := 21) rfl)
theorem gw_4_22 : Cond.classLink RX6 28 "Housestyle$Item" ∈ GW := mGA4 _ (List.mem_of_getElem? (i := 22) rfl)
theorem gw_4_23 : Cond.methodLink RX6 66 yX8_isQuoted ∈ GW := mGA4 _ (List.mem_of_getElem? (i := 23) rfl)
theorem gw_5_0 : Cond.instanceMethod yX8_isQuoted ∈ GW := mGA5 _ (List.mem_of_getElem? (i := 0) rfl)
theorem gw_5_1 : Cond.selects RX8 yX8_isQuoted yX8_isQuoted ∈ GW := mGA5 _ (List.mem_of_getElem? (i := 1) rfl)
theorem gw_5_2 : Cond.methodLink RX6 71 yX8_isFirst ∈ GW := mGA5 _ (List.mem_of_getElem? (i := 2) rfl)
theorem gw_5_3 : Cond.instanceMethod yX8_isFirst ∈ GW := mGA5 _ (List.mem_of_getElem? (i := 3) rfl)
theorem gw_5_4 : Cond.selects RX8 yX8_isFirst yX8_isFirst ∈ GW := mGA5 _ (List.mem_of_getElem? (i := 4) rfl)
theorem gw_5_5 : Cond.methodLink RX6 77 yX8_goesOn ∈ GW := mGA5 _ (List.mem_of_getElem? (i := 5) rfl)
theorem gw_5_6 : Cond.instanceMethod yX8_goesOn ∈ GW := mGA5 _ (List.mem_of_getElem? (i := 6) rfl)
theorem gw_5_7 : Cond.selects RX8 yX8_goesOn yX8_goesOn ∈ GW := mGA5 _ (List.mem_of_getElem? (i := 7) rfl)
theorem gw_5_8 : Cond.methodLink RX6 83 yX3_fits ∈ GW := mGA5 _ (List.mem_of_getElem? (i := 8) rfl)
theorem gw_5_9 : Cond.instanceMethod yX3_fits ∈ GW := mGA5 _ (List.mem_of_getElem? (i := 9) rfl)
theorem gw_5_10 : Cond.selects RX3 yX3_fits yX3_fits ∈ GW := mGA5 _ (List.mem_of_getElem? (i := 10) rfl)
theorem gw_5_11 : Cond.initialized RX3 ∈ GW := mGA5 _ (List.mem_of_getElem? (i := 11) rfl)
theorem gw_5_12 : Cond.methodLink RX6 87 yX6_isExcepted ∈ GW := mGA5 _ (List.mem_of_getElem? (i := 12) rfl)
theorem gw_5_13 : Cond.instanceMethod yX6_isExcepted ∈ GW := mGA5 _ (List.mem_of_getElem? (i := 13) rfl)
theorem gw_5_14 : Cond.selects RX6 yX6_isExcepted yX6_isExcepted ∈ GW := mGA5 _ (List.mem_of_getElem? (i := 14) rfl)
theorem gw_5_15 : Cond.initialized RX6 ∈ GW := mGA5 _ (List.mem_of_getElem? (i := 15) rfl)
theorem gw_5_16 : Cond.code yX5_set cX5_set 3 none ∈ GW := mGA5 _ (List.mem_of_getElem? (i := 16) rfl)
theorem gw_5_17 : Cond.code yX0_addHit cX0_addHit 3 none ∈ GW := mGA5 _ (List.mem_of_getElem? (i := 17) rfl)
theorem gw_5_18 : Cond.methodLink RX0 62 yX5_get ∈ GW := mGA5 _ (List.mem_of_getElem? (i := 18) rfl)
theorem gw_5_19 : Cond.methodLink RX0 65 yX5_set ∈ GW := mGA5 _ (List.mem_of_getElem? (i := 19) rfl)
theorem gw_5_20 : Cond.instanceMethod yX5_set ∈ GW := mGA5 _ (List.mem_of_getElem? (i := 20) rfl)
theorem gw_5_21 : Cond.selects RX5 yX5_set yX5_set ∈ GW := mGA5 _ (List.mem_of_getElem? (i := 21) rfl)
theorem gw_5_22 : Cond.code yX0_lookForPair cX0_lookForPair 6 none ∈ GW := mGA5 _ (List.mem_of_getElem? (i := 22) rfl)
theorem gw_5_23 : Cond.methodLink RX0 30 yX8_count ∈ GW := mGA5 _ (List.mem_of_getElem? (i := 23) rfl)
theorem gw_6_0 : Cond.methodLink RX0 68 yX8_isQuoted ∈ GW := mGA6 _ (List.mem_of_getElem? (i := 0) rfl)
theorem gw_6_1 : Cond.methodLink RX0 72 yX8_isThe ∈ GW := mGA6 _ (List.mem_of_getElem? (i := 1) rfl)
theorem gw_6_2 : Cond.methodLink RX0 52 yX0_addHit ∈ GW := mGA6 _ (List.mem_of_getElem? (i := 2) rfl)
theorem gw_6_3 : Cond.instanceMethod yX0_addHit ∈ GW := mGA6 _ (List.mem_of_getElem? (i := 3) rfl)
theorem gw_6_4 : Cond.selects RX0 yX0_addHit yX0_addHit ∈ GW := mGA6 _ (List.mem_of_getElem? (i := 4) rfl)
theorem gw_6_5 : Cond.initialized RX0 ∈ GW := mGA6 _ (List.mem_of_getElem? (i := 5) rfl)
theorem gw_6_6 : Cond.code yX0_look cX0_look 5 none ∈ GW := mGA6 _ (List.mem_of_getElem? (i := 6) rfl)
theorem gw_6_7 : Cond.classLink RX0 46 "Housestyle$Rule" ∈ GW := mGA6 _ (List.mem_of_getElem? (i := 7) rfl)
theorem gw_6_8 : Cond.classLink RX0 56 "Housestyle$Pair" ∈ GW := mGA6 _ (List.mem_of_getElem? (i := 8) rfl)
theorem gw_6_9 : Cond.methodLink RX0 36 yX5_reset ∈ GW := mGA6 _ (List.mem_of_getElem? (i := 9) rfl)
theorem gw_6_10 : Cond.instanceMethod yX5_reset ∈ GW := mGA6 _ (List.mem_of_getElem? (i := 10) rfl)
theorem gw_6_11 : Cond.selects RX5 yX5_reset yX5_reset ∈ GW := mGA6 _ (List.mem_of_getElem? (i := 11) rfl)
theorem gw_6_12 : Cond.methodLink RX0 39 yJx4a65c_size_8abf5 ∈ GW := mGA6 _ (List.mem_of_getElem? (i := 12) rfl)
theorem gw_6_13 : Cond.methodLink RX0 42 yJx4a65c_get_915e3 ∈ GW := mGA6 _ (List.mem_of_getElem? (i := 13) rfl)
theorem gw_6_14 : Cond.methodLink RX0 48 yX6_isFoundAt ∈ GW := mGA6 _ (List.mem_of_getElem? (i := 14) rfl)
theorem gw_6_15 : Cond.instanceMethod yX6_isFoundAt ∈ GW := mGA6 _ (List.mem_of_getElem? (i := 15) rfl)
theorem gw_6_16 : Cond.selects RX6 yX6_isFoundAt yX6_isFoundAt ∈ GW := mGA6 _ (List.mem_of_getElem? (i := 16) rfl)
theorem gw_6_17 : Cond.methodLink RX0 58 yX0_lookForPair ∈ GW := mGA6 _ (List.mem_of_getElem? (i := 17) rfl)
theorem gw_6_18 : Cond.instanceMethod yX0_lookForPair ∈ GW := mGA6 _ (List.mem_of_getElem? (i := 18) rfl)
theorem gw_6_19 : Cond.selects RX0 yX0_lookForPair yX0_lookForPair ∈ GW := mGA6 _ (List.mem_of_getElem? (i := 19) rfl)
theorem gw_6_20 : Cond.code yX8_valueOf cX8_valueOf 2 (some .int) ∈ GW := mGA6 _ (List.mem_of_getElem? (i := 20) rfl)
theorem gw_6_21 : Cond.fieldLink RX8 29 "Housestyle$Tokens" "values" "LHousestyle$Row;" ∈ GW := mGA6 _ (List.mem_of_getElem? (i := 21) rfl)
theorem gw_6_22 : Cond.code yX0_foundAt cX0_foundAt 5 (some .int) ∈ GW := mGA6 _ (List.mem_of_getElem? (i := 22) rfl)
theorem gw_6_23 : Cond.constant RX0 97 (1048576) ∈ GW := mGA6 _ (List.mem_of_getElem? (i := 23) rfl)
theorem gw_7_0 : Cond.methodLink RX0 88 yX8_isNumber ∈ GW := mGA7 _ (List.mem_of_getElem? (i := 0) rfl)
theorem gw_7_1 : Cond.methodLink RX0 91 yX8_valueOf ∈ GW := mGA7 _ (List.mem_of_getElem? (i := 1) rfl)
theorem gw_7_2 : Cond.instanceMethod yX8_valueOf ∈ GW := mGA7 _ (List.mem_of_getElem? (i := 2) rfl)
theorem gw_7_3 : Cond.selects RX8 yX8_valueOf yX8_valueOf ∈ GW := mGA7 _ (List.mem_of_getElem? (i := 3) rfl)
theorem gw_7_4 : Cond.code yX0_itemsOf cX0_itemsOf 2 (some .int) ∈ GW := mGA7 _ (List.mem_of_getElem? (i := 4) rfl)
theorem gw_7_5 : Cond.code yX0_rankAt cX0_rankAt 4 (some .int) ∈ GW := mGA7 _ (List.mem_of_getElem? (i := 5) rfl)
theorem gw_7_6 : Cond.code yX0_ofRank cX0_ofRank 5 (some .int) ∈ GW := mGA7 _ (List.mem_of_getElem? (i := 6) rfl)
theorem gw_7_7 : Cond.methodLink RX0 107 yX0_rankAt ∈ GW := mGA7 _ (List.mem_of_getElem? (i := 7) rfl)
theorem gw_7_8 : Cond.instanceMethod yX0_rankAt ∈ GW := mGA7 _ (List.mem_of_getElem? (i := 8) rfl)
theorem gw_7_9 : Cond.selects RX0 yX0_rankAt yX0_rankAt ∈ GW := mGA7 _ (List.mem_of_getElem? (i := 9) rfl)
theorem gw_7_10 : Cond.code yX0_suggestionsOf cX0_suggestionsOf 2 (some .int) ∈ GW := mGA7 _ (List.mem_of_getElem? (i := 10) rfl)
theorem gw_7_11 : Cond.code yX5_add cX5_add 2 none ∈ GW := mGA7 _ (List.mem_of_getElem? (i := 11) rfl)
theorem gw_7_12 : Cond.code yX8_write cX8_write 5 none ∈ GW := mGA7 _ (List.mem_of_getElem? (i := 12) rfl)
theorem gw_7_13 : Cond.methodLink RX8 87 yX5_add ∈ GW := mGA7 _ (List.mem_of_getElem? (i := 13) rfl)
theorem gw_7_14 : Cond.instanceMethod yX5_add ∈ GW := mGA7 _ (List.mem_of_getElem? (i := 14) rfl)
theorem gw_7_15 : Cond.selects RX5 yX5_add yX5_add ∈ GW := mGA7 _ (List.mem_of_getElem? (i := 15) rfl)
theorem gw_7_16 : Cond.code yX6_writeTaken cX6_writeTaken 6 none ∈ GW := mGA7 _ (List.mem_of_getElem? (i := 16) rfl)
theorem gw_7_17 : Cond.methodLink RX6 18 yX5_count ∈ GW := mGA7 _ (List.mem_of_getElem? (i := 17) rfl)
theorem gw_7_18 : Cond.methodLink RX6 111 yX8_write ∈ GW := mGA7 _ (List.mem_of_getElem? (i := 18) rfl)
theorem gw_7_19 : Cond.instanceMethod yX8_write ∈ GW := mGA7 _ (List.mem_of_getElem? (i := 19) rfl)
theorem gw_7_20 : Cond.selects RX8 yX8_write yX8_write ∈ GW := mGA7 _ (List.mem_of_getElem? (i := 20) rfl)
theorem gw_7_21 : Cond.code yX6_writeSuggestion cX6_writeSuggestion 7 none ∈ GW := mGA7 _ (List.mem_of_getElem? (i := 21) rfl)
theorem gw_7_22 : Cond.fieldLink RX6 52 "Housestyle$Rule" "suggestions" "Ljava/util/ArrayList;" ∈ GW := mGA7 _ (List.mem_of_getElem? (i := 22) rfl)
theorem gw_7_23 : Cond.methodLink RX6 24 yX5_get ∈ GW := mGA7 _ (List.mem_of_getElem? (i := 23) rfl)
theorem gw_8_0 : Cond.methodLink RX6 97 yX6_writeTaken ∈ GW := mGA8 _ (List.mem_of_getElem? (i := 0) rfl)
theorem gw_8_1 : Cond.instanceMethod yX6_writeTaken ∈ GW := mGA8 _ (List.mem_of_getElem? (i := 1) rfl)
theorem gw_8_2 : Cond.selects RX6 yX6_writeTaken yX6_writeTaken ∈ GW := mGA8 _ (List.mem_of_getElem? (i := 2) rfl)
theorem gw_8_3 : Cond.methodLink RX6 101 yX5_add ∈ GW := mGA8 _ (List.mem_of_getElem? (i := 3) rfl)
theorem gw_8_4 : Cond.code yX4_unlike cX4_unlike 3 (some (.object "Housestyle$Row")) ∈ GW := mGA8 _ (List.mem_of_getElem? (i := 4) rfl)
theorem gw_8_5 : Cond.fieldLink RX4 7 "Housestyle$Pair" "one" "LHousestyle$Row;" ∈ GW := mGA8 _ (List.mem_of_getElem? (i := 5) rfl)
theorem gw_8_6 : Cond.fieldLink RX4 13 "Housestyle$Pair" "other" "LHousestyle$Row;" ∈ GW := mGA8 _ (List.mem_of_getElem? (i := 6) rfl)
theorem gw_8_7 : Cond.methodLink RX4 16 yX8_isThe ∈ GW := mGA8 _ (List.mem_of_getElem? (i := 7) rfl)
theorem gw_8_8 : Cond.code yX0_writeSuggestion cX0_writeSuggestion 8 none ∈ GW := mGA8 _ (List.mem_of_getElem? (i := 8) rfl)
theorem gw_8_9 : Cond.methodLink RX0 114 yX6_writeSuggestion ∈ GW := mGA8 _ (List.mem_of_getElem? (i := 9) rfl)
theorem gw_8_10 : Cond.instanceMethod yX6_writeSuggestion ∈ GW := mGA8 _ (List.mem_of_getElem? (i := 10) rfl)
theorem gw_8_11 : Cond.selects RX6 yX6_writeSuggestion yX6_writeSuggestion ∈ GW := mGA8 _ (List.mem_of_getElem? (i := 11) rfl)
theorem gw_8_12 : Cond.methodLink RX0 118 yX4_unlike ∈ GW := mGA8 _ (List.mem_of_getElem? (i := 12) rfl)
theorem gw_8_13 : Cond.instanceMethod yX4_unlike ∈ GW := mGA8 _ (List.mem_of_getElem? (i := 13) rfl)
theorem gw_8_14 : Cond.selects RX4 yX4_unlike yX4_unlike ∈ GW := mGA8 _ (List.mem_of_getElem? (i := 14) rfl)
theorem gw_8_15 : Cond.initialized RX4 ∈ GW := mGA8 _ (List.mem_of_getElem? (i := 15) rfl)
theorem gw_8_16 : Cond.methodLink RX0 122 yX5_count ∈ GW := mGA8 _ (List.mem_of_getElem? (i := 16) rfl)
theorem gw_8_17 : Cond.methodLink RX0 123 yX5_add ∈ GW := mGA8 _ (List.mem_of_getElem? (i := 17) rfl)
theorem gw_8_18 : Cond.code yX1_init cX1_init 1 none ∈ GW := mGA8 _ (List.mem_of_getElem? (i := 18) rfl)
theorem gw_8_19 : Cond.methodLink RX1 3 objectInit ∈ GW := mGA8 _ (List.mem_of_getElem? (i := 19) rfl)
theorem gw_8_20 : Cond.classLink RX1 9 RX5 ∈ GW := mGA8 _ (List.mem_of_getElem? (i := 20) rfl)
theorem gw_8_21 : Cond.fieldLink RX1 14 "Housestyle$Desk" "ranks" "LHousestyle$Row;" ∈ GW := mGA8 _ (List.mem_of_getElem? (i := 21) rfl)
theorem gw_8_22 : Cond.fieldLink RX1 23 "Housestyle$Desk" "ignoredRules" "LHousestyle$Row;" ∈ GW := mGA8 _ (List.mem_of_getElem? (i := 22) rfl)
theorem gw_8_23 : Cond.fieldLink RX1 26 "Housestyle$Desk" "ignoredFroms" "LHousestyle$Row;" ∈ GW := mGA8 _ (List.mem_of_getElem? (i := 23) rfl)
theorem gw_9_0 : Cond.fieldLink RX1 29 "Housestyle$Desk" "ignoredLengths" "LHousestyle$Row;" ∈ GW := mGA9 _ (List.mem_of_getElem? (i := 0) rfl)
theorem gw_9_1 : Cond.fieldLink RX1 32 "Housestyle$Desk" "numbersBelow" "I" ∈ GW := mGA9 _ (List.mem_of_getElem? (i := 1) rfl)
theorem gw_9_2 : Cond.fieldLink RX1 36 "Housestyle$Desk" "leftOut" "I" ∈ GW := mGA9 _ (List.mem_of_getElem? (i := 2) rfl)
theorem gw_9_3 : Cond.methodLink RX1 11 yX5_init ∈ GW := mGA9 _ (List.mem_of_getElem? (i := 3) rfl)
theorem gw_9_4 : Cond.methodLink RX1 20 yX5_reset ∈ GW := mGA9 _ (List.mem_of_getElem? (i := 4) rfl)
theorem gw_9_5 : Cond.code yX1_uses cX1_uses 2 (some .boolean) ∈ GW := mGA9 _ (List.mem_of_getElem? (i := 5) rfl)
theorem gw_9_6 : Cond.code yX1_setUse cX1_setUse 3 none ∈ GW := mGA9 _ (List.mem_of_getElem? (i := 6) rfl)
theorem gw_9_7 : Cond.code yX1_ignoredCount cX1_ignoredCount 1 (some .int) ∈ GW := mGA9 _ (List.mem_of_getElem? (i := 7) rfl)
theorem gw_9_8 : Cond.methodLink RX1 39 yX5_count ∈ GW := mGA9 _ (List.mem_of_getElem? (i := 8) rfl)
theorem gw_9_9 : Cond.code yX1_addIgnored cX1_addIgnored 4 none ∈ GW := mGA9 _ (List.mem_of_getElem? (i := 9) rfl)
theorem gw_9_10 : Cond.methodLink RX1 43 yX5_add ∈ GW := mGA9 _ (List.mem_of_getElem? (i := 10) rfl)
theorem gw_9_11 : Cond.code yX5_clear cX5_clear 1 none ∈ GW := mGA9 _ (List.mem_of_getElem? (i := 11) rfl)
theorem gw_9_12 : Cond.code yX1_clearIgnored cX1_clearIgnored 1 none ∈ GW := mGA9 _ (List.mem_of_getElem? (i := 12) rfl)
theorem gw_9_13 : Cond.methodLink RX1 46 yX5_clear ∈ GW := mGA9 _ (List.mem_of_getElem? (i := 13) rfl)
theorem gw_9_14 : Cond.instanceMethod yX5_clear ∈ GW := mGA9 _ (List.mem_of_getElem? (i := 14) rfl)
theorem gw_9_15 : Cond.selects RX5 yX5_clear yX5_clear ∈ GW := mGA9 _ (List.mem_of_getElem? (i := 15) rfl)
theorem gw_9_16 : Cond.code yX1_ignores cX1_ignores 5 (some .boolean) ∈ GW := mGA9 _ (List.mem_of_getElem? (i := 16) rfl)
theorem gw_9_17 : Cond.methodLink RX1 49 yX1_ignoredCount ∈ GW := mGA9 _ (List.mem_of_getElem? (i := 17) rfl)
theorem gw_9_18 : Cond.instanceMethod yX1_ignoredCount ∈ GW := mGA9 _ (List.mem_of_getElem? (i := 18) rfl)
theorem gw_9_19 : Cond.selects RX1 yX1_ignoredCount yX1_ignoredCount ∈ GW := mGA9 _ (List.mem_of_getElem? (i := 19) rfl)
theorem gw_9_20 : Cond.initialized RX1 ∈ GW := mGA9 _ (List.mem_of_getElem? (i := 20) rfl)
theorem gw_9_21 : Cond.methodLink RX1 52 yX5_get ∈ GW := mGA9 _ (List.mem_of_getElem? (i := 21) rfl)
theorem gw_9_22 : Cond.code yX5_remove cX5_remove 4 (some .int) ∈ GW := mGA9 _ (List.mem_of_getElem? (i := 22) rfl)
theorem gw_9_23 : Cond.code yX1_forget cX1_forget 2 none ∈ GW := mGA9 _ (List.mem_of_getElem? (i := 23) rfl)
theorem gw_10_0 : Cond.methodLink RX1 63 yX5_remove ∈ GW := mGA10 _ (List.mem_of_getElem? (i := 0) rfl)
theorem gw_10_1 : Cond.instanceMethod yX5_remove ∈ GW := mGA10 _ (List.mem_of_getElem? (i := 1) rfl)
theorem gw_10_2 : Cond.selects RX5 yX5_remove yX5_remove ∈ GW := mGA10 _ (List.mem_of_getElem? (i := 2) rfl)
theorem gw_10_3 : Cond.code yX1_followPut cX1_followPut 4 none ∈ GW := mGA10 _ (List.mem_of_getElem? (i := 3) rfl)
theorem gw_10_4 : Cond.methodLink RX1 56 yX5_set ∈ GW := mGA10 _ (List.mem_of_getElem? (i := 4) rfl)
theorem gw_10_5 : Cond.methodLink RX1 60 yX1_forget ∈ GW := mGA10 _ (List.mem_of_getElem? (i := 5) rfl)
theorem gw_10_6 : Cond.instanceMethod yX1_forget ∈ GW := mGA10 _ (List.mem_of_getElem? (i := 6) rfl)
theorem gw_10_7 : Cond.selects RX1 yX1_forget yX1_forget ∈ GW := mGA10 _ (List.mem_of_getElem? (i := 7) rfl)
theorem gw_10_8 : Cond.code yX1_followTake cX1_followTake 4 none ∈ GW := mGA10 _ (List.mem_of_getElem? (i := 8) rfl)
theorem gw_10_9 : Cond.code yX1_ignoredLieWithin cX1_ignoredLieWithin 4 (some .boolean) ∈ GW := mGA10 _ (List.mem_of_getElem? (i := 9) rfl)
theorem gw_10_10 : Cond.code yX2_init cX2_init 3 none ∈ GW := mGA10 _ (List.mem_of_getElem? (i := 10) rfl)
theorem gw_10_11 : Cond.methodLink RX2 3 objectInit ∈ GW := mGA10 _ (List.mem_of_getElem? (i := 11) rfl)
theorem gw_10_12 : Cond.fieldLink RX2 9 "Housestyle$Findings" "book" "LHousestyle$Book;" ∈ GW := mGA10 _ (List.mem_of_getElem? (i := 12) rfl)
theorem gw_10_13 : Cond.fieldLink RX2 15 "Housestyle$Findings" "tokens" "LHousestyle$Tokens;" ∈ GW := mGA10 _ (List.mem_of_getElem? (i := 13) rfl)
theorem gw_10_14 : Cond.classLink RX2 19 RX5 ∈ GW := mGA10 _ (List.mem_of_getElem? (i := 14) rfl)
theorem gw_10_15 : Cond.fieldLink RX2 24 "Housestyle$Findings" "covered" "LHousestyle$Row;" ∈ GW := mGA10 _ (List.mem_of_getElem? (i := 15) rfl)
theorem gw_10_16 : Cond.fieldLink RX2 28 "Housestyle$Findings" "takenAt" "LHousestyle$Row;" ∈ GW := mGA10 _ (List.mem_of_getElem? (i := 16) rfl)
theorem gw_10_17 : Cond.fieldLink RX2 31 "Housestyle$Findings" "itsTokens" "LHousestyle$Row;" ∈ GW := mGA10 _ (List.mem_of_getElem? (i := 17) rfl)
theorem gw_10_18 : Cond.fieldLink RX2 34 "Housestyle$Findings" "itsRules" "LHousestyle$Row;" ∈ GW := mGA10 _ (List.mem_of_getElem? (i := 18) rfl)
theorem gw_10_19 : Cond.methodLink RX2 21 yX5_init ∈ GW := mGA10 _ (List.mem_of_getElem? (i := 19) rfl)
theorem gw_10_20 : Cond.code yX2_count cX2_count 1 (some .int) ∈ GW := mGA10 _ (List.mem_of_getElem? (i := 20) rfl)
theorem gw_10_21 : Cond.methodLink RX2 37 yX5_count ∈ GW := mGA10 _ (List.mem_of_getElem? (i := 21) rfl)
theorem gw_10_22 : Cond.code yX2_tokenOf cX2_tokenOf 2 (some .int) ∈ GW := mGA10 _ (List.mem_of_getElem? (i := 22) rfl)
theorem gw_10_23 : Cond.methodLink RX2 41 yX5_get ∈ GW := mGA10 _ (List.mem_of_getElem? (i := 23) rfl)
theorem gw_11_0 : Cond.code yX2_ruleOf cX2_ruleOf 2 (some .int) ∈ GW := mGA11 _ (List.mem_of_getElem? (i := 0) rfl)
theorem gw_11_1 : Cond.code yX8_fromOf cX8_fromOf 2 (some .int) ∈ GW := mGA11 _ (List.mem_of_getElem? (i := 1) rfl)
theorem gw_11_2 : Cond.code yX2_fromOf cX2_fromOf 2 (some .int) ∈ GW := mGA11 _ (List.mem_of_getElem? (i := 2) rfl)
theorem gw_11_3 : Cond.methodLink RX2 45 yX8_fromOf ∈ GW := mGA11 _ (List.mem_of_getElem? (i := 3) rfl)
theorem gw_11_4 : Cond.instanceMethod yX8_fromOf ∈ GW := mGA11 _ (List.mem_of_getElem? (i := 4) rfl)
theorem gw_11_5 : Cond.selects RX8 yX8_fromOf yX8_fromOf ∈ GW := mGA11 _ (List.mem_of_getElem? (i := 5) rfl)
theorem gw_11_6 : Cond.code yX8_endOf cX8_endOf 2 (some .int) ∈ GW := mGA11 _ (List.mem_of_getElem? (i := 6) rfl)
theorem gw_11_7 : Cond.code yX2_lengthAt cX2_lengthAt 3 (some .int) ∈ GW := mGA11 _ (List.mem_of_getElem? (i := 7) rfl)
theorem gw_11_8 : Cond.methodLink RX2 54 yX0_itemsOf ∈ GW := mGA11 _ (List.mem_of_getElem? (i := 8) rfl)
theorem gw_11_9 : Cond.instanceMethod yX0_itemsOf ∈ GW := mGA11 _ (List.mem_of_getElem? (i := 9) rfl)
theorem gw_11_10 : Cond.selects RX0 yX0_itemsOf yX0_itemsOf ∈ GW := mGA11 _ (List.mem_of_getElem? (i := 10) rfl)
theorem gw_11_11 : Cond.methodLink RX2 59 yX8_endOf ∈ GW := mGA11 _ (List.mem_of_getElem? (i := 11) rfl)
theorem gw_11_12 : Cond.instanceMethod yX8_endOf ∈ GW := mGA11 _ (List.mem_of_getElem? (i := 12) rfl)
theorem gw_11_13 : Cond.selects RX8 yX8_endOf yX8_endOf ∈ GW := mGA11 _ (List.mem_of_getElem? (i := 13) rfl)
theorem gw_11_14 : Cond.code yX2_lengthOf cX2_lengthOf 2 (some .int) ∈ GW := mGA11 _ (List.mem_of_getElem? (i := 14) rfl)
theorem gw_11_15 : Cond.methodLink RX2 50 yX2_lengthAt ∈ GW := mGA11 _ (List.mem_of_getElem? (i := 15) rfl)
theorem gw_11_16 : Cond.instanceMethod yX2_lengthAt ∈ GW := mGA11 _ (List.mem_of_getElem? (i := 16) rfl)
theorem gw_11_17 : Cond.selects RX2 yX2_lengthAt yX2_lengthAt ∈ GW := mGA11 _ (List.mem_of_getElem? (i := 17) rfl)
theorem gw_11_18 : Cond.initialized RX2 ∈ GW := mGA11 _ (List.mem_of_getElem? (i := 18) rfl)
theorem gw_11_19 : Cond.code yX2_isFree cX2_isFree 4 (some .boolean) ∈ GW := mGA11 _ (List.mem_of_getElem? (i := 19) rfl)
theorem gw_11_20 : Cond.code yX2_cover cX2_cover 4 none ∈ GW := mGA11 _ (List.mem_of_getElem? (i := 20) rfl)
theorem gw_11_21 : Cond.methodLink RX2 98 yX5_set ∈ GW := mGA11 _ (List.mem_of_getElem? (i := 21) rfl)
theorem gw_11_22 : Cond.code yX2_takeBest cX2_takeBest 6 none ∈ GW := mGA11 _ (List.mem_of_getElem? (i := 22) rfl)
theorem gw_11_23 : Cond.methodLink RX2 84 yX2_isFree ∈ GW := mGA11 _ (List.mem_of_getElem? (i := 23) rfl)
theorem gw_12_0 : Cond.instanceMethod yX2_isFree ∈ GW := mGA12 _ (List.mem_of_getElem? (i := 0) rfl)
theorem gw_12_1 : Cond.selects RX2 yX2_isFree yX2_isFree ∈ GW := mGA12 _ (List.mem_of_getElem? (i := 1) rfl)
theorem gw_12_2 : Cond.methodLink RX2 88 yX1_ignores ∈ GW := mGA12 _ (List.mem_of_getElem? (i := 2) rfl)
theorem gw_12_3 : Cond.instanceMethod yX1_ignores ∈ GW := mGA12 _ (List.mem_of_getElem? (i := 3) rfl)
theorem gw_12_4 : Cond.selects RX1 yX1_ignores yX1_ignores ∈ GW := mGA12 _ (List.mem_of_getElem? (i := 4) rfl)
theorem gw_12_5 : Cond.methodLink RX2 94 yX2_cover ∈ GW := mGA12 _ (List.mem_of_getElem? (i := 5) rfl)
theorem gw_12_6 : Cond.instanceMethod yX2_cover ∈ GW := mGA12 _ (List.mem_of_getElem? (i := 6) rfl)
theorem gw_12_7 : Cond.selects RX2 yX2_cover yX2_cover ∈ GW := mGA12 _ (List.mem_of_getElem? (i := 7) rfl)
theorem gw_12_8 : Cond.code yX2_solve cX2_solve 5 none ∈ GW := mGA12 _ (List.mem_of_getElem? (i := 8) rfl)
theorem gw_12_9 : Cond.methodLink RX2 62 yX8_count ∈ GW := mGA12 _ (List.mem_of_getElem? (i := 9) rfl)
theorem gw_12_10 : Cond.methodLink RX2 63 yX5_reset ∈ GW := mGA12 _ (List.mem_of_getElem? (i := 10) rfl)
theorem gw_12_11 : Cond.methodLink RX2 66 yX0_ofRank ∈ GW := mGA12 _ (List.mem_of_getElem? (i := 11) rfl)
theorem gw_12_12 : Cond.instanceMethod yX0_ofRank ∈ GW := mGA12 _ (List.mem_of_getElem? (i := 12) rfl)
theorem gw_12_13 : Cond.selects RX0 yX0_ofRank yX0_ofRank ∈ GW := mGA12 _ (List.mem_of_getElem? (i := 13) rfl)
theorem gw_12_14 : Cond.methodLink RX2 70 yX0_foundAt ∈ GW := mGA12 _ (List.mem_of_getElem? (i := 14) rfl)
theorem gw_12_15 : Cond.instanceMethod yX0_foundAt ∈ GW := mGA12 _ (List.mem_of_getElem? (i := 15) rfl)
theorem gw_12_16 : Cond.selects RX0 yX0_foundAt yX0_foundAt ∈ GW := mGA12 _ (List.mem_of_getElem? (i := 16) rfl)
theorem gw_12_17 : Cond.methodLink RX2 74 yX2_takeBest ∈ GW := mGA12 _ (List.mem_of_getElem? (i := 17) rfl)
theorem gw_12_18 : Cond.instanceMethod yX2_takeBest ∈ GW := mGA12 _ (List.mem_of_getElem? (i := 18) rfl)
theorem gw_12_19 : Cond.selects RX2 yX2_takeBest yX2_takeBest ∈ GW := mGA12 _ (List.mem_of_getElem? (i := 19) rfl)
theorem gw_12_20 : Cond.methodLink RX2 78 yX5_clear ∈ GW := mGA12 _ (List.mem_of_getElem? (i := 20) rfl)
theorem gw_12_21 : Cond.methodLink RX2 81 yX5_add ∈ GW := mGA12 _ (List.mem_of_getElem? (i := 21) rfl)
theorem gw_12_22 : Cond.code yX2_shareNoSign cX2_shareNoSign 2 (some .boolean) ∈ GW := mGA12 _ (List.mem_of_getElem? (i := 22) rfl)
theorem gw_12_23 : Cond.methodLink RX2 101 yX2_count ∈ GW := mGA12 _ (List.mem_of_getElem? (i := 23) rfl)
theorem gw_13_0 : Cond.instanceMethod yX2_count ∈ GW := mGA13 _ (List.mem_of_getElem? (i := 0) rfl)
theorem gw_13_1 : Cond.selects RX2 yX2_count yX2_count ∈ GW := mGA13 _ (List.mem_of_getElem? (i := 1) rfl)
theorem gw_13_2 : Cond.methodLink RX2 102 yX2_fromOf ∈ GW := mGA13 _ (List.mem_of_getElem? (i := 2) rfl)
theorem gw_13_3 : Cond.instanceMethod yX2_fromOf ∈ GW := mGA13 _ (List.mem_of_getElem? (i := 3) rfl)
theorem gw_13_4 : Cond.selects RX2 yX2_fromOf yX2_fromOf ∈ GW := mGA13 _ (List.mem_of_getElem? (i := 4) rfl)
theorem gw_13_5 : Cond.methodLink RX2 103 yX2_lengthOf ∈ GW := mGA13 _ (List.mem_of_getElem? (i := 5) rfl)
theorem gw_13_6 : Cond.instanceMethod yX2_lengthOf ∈ GW := mGA13 _ (List.mem_of_getElem? (i := 6) rfl)
theorem gw_13_7 : Cond.selects RX2 yX2_lengthOf yX2_lengthOf ∈ GW := mGA13 _ (List.mem_of_getElem? (i := 7) rfl)
theorem gw_13_8 : Cond.code yX2_isLeftOut cX2_isLeftOut 7 (some .boolean) ∈ GW := mGA13 _ (List.mem_of_getElem? (i := 8) rfl)
theorem gw_13_9 : Cond.code yX2_accountForAll cX2_accountForAll 7 (some .boolean) ∈ GW := mGA13 _ (List.mem_of_getElem? (i := 9) rfl)
theorem gw_13_10 : Cond.methodLink RX2 106 yX2_isLeftOut ∈ GW := mGA13 _ (List.mem_of_getElem? (i := 10) rfl)
theorem gw_13_11 : Cond.instanceMethod yX2_isLeftOut ∈ GW := mGA13 _ (List.mem_of_getElem? (i := 11) rfl)
theorem gw_13_12 : Cond.selects RX2 yX2_isLeftOut yX2_isLeftOut ∈ GW := mGA13 _ (List.mem_of_getElem? (i := 12) rfl)
theorem gw_13_13 : Cond.code yX5_part cX5_part 5 (some (.object "Housestyle$Row")) ∈ GW := mGA13 _ (List.mem_of_getElem? (i := 13) rfl)
theorem gw_13_14 : Cond.classLink RX5 8 RX5 ∈ GW := mGA13 _ (List.mem_of_getElem? (i := 14) rfl)
theorem gw_13_15 : Cond.methodLink RX5 21 yX5_init ∈ GW := mGA13 _ (List.mem_of_getElem? (i := 15) rfl)
theorem gw_13_16 : Cond.methodLink RX5 17 yX5_get ∈ GW := mGA13 _ (List.mem_of_getElem? (i := 16) rfl)
theorem gw_13_17 : Cond.methodLink RX5 24 yX5_add ∈ GW := mGA13 _ (List.mem_of_getElem? (i := 17) rfl)
theorem gw_13_18 : Cond.code yX3_init cX3_init 4 none ∈ GW := mGA13 _ (List.mem_of_getElem? (i := 18) rfl)
theorem gw_13_19 : Cond.methodLink RX3 1 objectInit ∈ GW := mGA13 _ (List.mem_of_getElem? (i := 19) rfl)
theorem gw_13_20 : Cond.methodLink RX3 7 yX5_get ∈ GW := mGA13 _ (List.mem_of_getElem? (i := 20) rfl)
theorem gw_13_21 : Cond.methodLink RX3 22 yX5_part ∈ GW := mGA13 _ (List.mem_of_getElem? (i := 21) rfl)
theorem gw_13_22 : Cond.instanceMethod yX5_part ∈ GW := mGA13 _ (List.mem_of_getElem? (i := 22) rfl)
theorem gw_13_23 : Cond.selects RX5 yX5_part yX5_part ∈ GW := mGA13 _ (List.mem_of_getElem? (i := 23) rfl)
theorem gw_14_0 : Cond.code yX9_isLetter cX9_isLetter 1 (some .boolean) ∈ GW := mGA14 _ (List.mem_of_getElem? (i := 0) rfl)
theorem gw_14_1 : Cond.code yX9_isWord cX9_isWord 5 (some .boolean) ∈ GW := mGA14 _ (List.mem_of_getElem? (i := 1) rfl)
theorem gw_14_2 : Cond.methodLink RX9 130 yX5_get ∈ GW := mGA14 _ (List.mem_of_getElem? (i := 2) rfl)
theorem gw_14_3 : Cond.methodLink RX9 332 yX9_isLetter ∈ GW := mGA14 _ (List.mem_of_getElem? (i := 3) rfl)
theorem gw_14_4 : Cond.static yX9_isLetter ∈ GW := mGA14 _ (List.mem_of_getElem? (i := 4) rfl)
theorem gw_14_5 : Cond.initialized RX9 ∈ GW := mGA14 _ (List.mem_of_getElem? (i := 5) rfl)
theorem gw_14_6 : Cond.code yX3_isItem cX3_isItem 4 (some .boolean) ∈ GW := mGA14 _ (List.mem_of_getElem? (i := 6) rfl)
theorem gw_14_7 : Cond.static yX9_isWord ∈ GW := mGA14 _ (List.mem_of_getElem? (i := 7) rfl)
theorem gw_14_8 : Cond.code yX4_init cX4_init 3 none ∈ GW := mGA14 _ (List.mem_of_getElem? (i := 8) rfl)
theorem gw_14_9 : Cond.methodLink RX4 1 objectInit ∈ GW := mGA14 _ (List.mem_of_getElem? (i := 9) rfl)
theorem gw_14_10 : Cond.code yX5_insert cX5_insert 4 none ∈ GW := mGA14 _ (List.mem_of_getElem? (i := 10) rfl)
theorem gw_14_11 : Cond.code yX5_placeOf cX5_placeOf 3 (some .int) ∈ GW := mGA14 _ (List.mem_of_getElem? (i := 11) rfl)
theorem gw_14_12 : Cond.code yX5_isLike cX5_isLike 3 (some .boolean) ∈ GW := mGA14 _ (List.mem_of_getElem? (i := 12) rfl)
theorem gw_14_13 : Cond.code yJ8_hugeLength_7cf53 cJ8_hugeLength_7cf53 3 (some .int) ∈ GW := mGA14 _ (List.mem_of_getElem? (i := 13) rfl)
theorem gw_14_14 : Cond.constant RJ8 200 (2147483639) ∈ GW := mGA14 _ (List.mem_of_getElem? (i := 14) rfl)
theorem gw_14_15 : Cond.code yJ8_newLength_cabcc cJ8_newLength_cabcc 4 (some .int) ∈ GW := mGA14 _ (List.mem_of_getElem? (i := 15) rfl)
theorem gw_14_16 : Cond.methodLink RJ8 194 Lib.Math.max.name ∈ GW := mGA14 _ (List.mem_of_getElem? (i := 16) rfl)
theorem gw_14_17 : Cond.static Lib.Math.max.name ∈ GW := mGA14 _ (List.mem_of_getElem? (i := 17) rfl)
theorem gw_14_18 : Cond.initialized "java/lang/Math" ∈ GW := mGA14 _ (List.mem_of_getElem? (i := 18) rfl)
theorem gw_14_19 : Cond.code Lib.Math.max.name Lib.Math.max.code 2 (some .int) ∈ GW := mGA14 _ (List.mem_of_getElem? (i := 19) rfl)
theorem gw_14_20 : Cond.methodLink RJ8 201 yJ8_hugeLength_7cf53 ∈ GW := mGA14 _ (List.mem_of_getElem? (i := 20) rfl)
theorem gw_14_21 : Cond.static yJ8_hugeLength_7cf53 ∈ GW := mGA14 _ (List.mem_of_getElem? (i := 21) rfl)
theorem gw_14_22 : Cond.initialized RJ8 ∈ GW := mGA14 _ (List.mem_of_getElem? (i := 22) rfl)
theorem gw_14_23 : Cond.code yJ7_copyOf_6403c cJ7_copyOf_6403c 4 (some (.array (.object "java/lang/Object"))) ∈ GW := mGA14 _ (List.mem_of_getElem? (i := 23) rfl)
theorem gw_15_0 : Cond.classLink RJ7 110 "[Ljava/lang/Object;" ∈ GW := mGA15 _ (List.mem_of_getElem? (i := 0) rfl)
theorem gw_15_1 : Cond.classLink RJ7 2 "java/lang/Object" ∈ GW := mGA15 _ (List.mem_of_getElem? (i := 1) rfl)
theorem gw_15_2 : Cond.methodLink RJ7 304 Lib.Math.min.name ∈ GW := mGA15 _ (List.mem_of_getElem? (i := 2) rfl)
theorem gw_15_3 : Cond.static Lib.Math.min.name ∈ GW := mGA15 _ (List.mem_of_getElem? (i := 3) rfl)
theorem gw_15_4 : Cond.code Lib.Math.min.name Lib.Math.min.code 2 (some .int) ∈ GW := mGA15 _ (List.mem_of_getElem? (i := 4) rfl)
theorem gw_15_5 : Cond.methodLink RJ7 150 arraycopyName ∈ GW := mGA15 _ (List.mem_of_getElem? (i := 5) rfl)
theorem gw_15_6 : Cond.native arraycopyName ∈ GW := mGA15 _ (List.mem_of_getElem? (i := 6) rfl)
theorem gw_15_7 : Cond.static arraycopyName ∈ GW := mGA15 _ (List.mem_of_getElem? (i := 7) rfl)
theorem gw_15_8 : Cond.initialized "java/lang/System" ∈ GW := mGA15 _ (List.mem_of_getElem? (i := 8) rfl)
theorem gw_15_9 : Cond.code yJ7_copyOf_1904c cJ7_copyOf_1904c 2 (some (.array (.object "java/lang/Object"))) ∈ GW := mGA15 _ (List.mem_of_getElem? (i := 9) rfl)
theorem gw_15_10 : Cond.methodLink RJ7 86 ⟨"java/lang/Object", "getClass", "()Ljava/lang/Class;"⟩ ∈ GW := mGA15 _ (List.mem_of_getElem? (i := 10) rfl)
theorem gw_15_11 : Cond.selects "[Ljava/lang/Object;" ⟨"java/lang/Object", "getClass", "()Ljava/lang/Class;"⟩ ⟨"java/lang/Object", "getClass", "()Ljava/lang/Class;"⟩ ∈ GW := mGA15 _ (List.mem_of_getElem? (i := 11) rfl)
theorem gw_15_12 : Cond.instanceMethod ⟨"java/lang/Object", "getClass", "()Ljava/lang/Class;"⟩ ∈ GW := mGA15 _ (List.mem_of_getElem? (i := 12) rfl)
theorem gw_15_13 : Cond.native ⟨"java/lang/Object", "getClass", "()Ljava/lang/Class;"⟩ ∈ GW := mGA15 _ (List.mem_of_getElem? (i := 13) rfl)
theorem gw_15_14 : Cond.methodLink RJ7 300 yJ7_copyOf_6403c ∈ GW := mGA15 _ (List.mem_of_getElem? (i := 14) rfl)
theorem gw_15_15 : Cond.static yJ7_copyOf_6403c ∈ GW := mGA15 _ (List.mem_of_getElem? (i := 15) rfl)
theorem gw_15_16 : Cond.initialized RJ7 ∈ GW := mGA15 _ (List.mem_of_getElem? (i := 16) rfl)
theorem gw_15_17 : Cond.code yJx4a65c_grow_92f84 cJx4a65c_grow_92f84 4 (some (.array (.object "java/lang/Object"))) ∈ GW := mGA15 _ (List.mem_of_getElem? (i := 17) rfl)
theorem gw_15_18 : Cond.methodLink RJx4a65c 79 Lib.Math.max.name ∈ GW := mGA15 _ (List.mem_of_getElem? (i := 18) rfl)
theorem gw_15_19 : Cond.classLink RJx4a65c 7 "java/lang/Object" ∈ GW := mGA15 _ (List.mem_of_getElem? (i := 19) rfl)
theorem gw_15_20 : Cond.methodLink RJx4a65c 73 yJ8_newLength_cabcc ∈ GW := mGA15 _ (List.mem_of_getElem? (i := 20) rfl)
theorem gw_15_21 : Cond.static yJ8_newLength_cabcc ∈ GW := mGA15 _ (List.mem_of_getElem? (i := 21) rfl)
theorem gw_15_22 : Cond.methodLink RJx4a65c 66 yJ7_copyOf_1904c ∈ GW := mGA15 _ (List.mem_of_getElem? (i := 22) rfl)
theorem gw_15_23 : Cond.static yJ7_copyOf_1904c ∈ GW := mGA15 _ (List.mem_of_getElem? (i := 23) rfl)
theorem gw_16_0 : Cond.code yJx4a65c_grow_d5877 cJx4a65c_grow_d5877 1 (some (.array (.object "java/lang/Object"))) ∈ GW := mGA16 _ (List.mem_of_getElem? (i := 0) rfl)
theorem gw_16_1 : Cond.methodLink RJx4a65c 69 yJx4a65c_grow_92f84 ∈ GW := mGA16 _ (List.mem_of_getElem? (i := 1) rfl)
theorem gw_16_2 : Cond.instanceMethod yJx4a65c_grow_92f84 ∈ GW := mGA16 _ (List.mem_of_getElem? (i := 2) rfl)
theorem gw_16_3 : Cond.selects RJx4a65c yJx4a65c_grow_92f84 yJx4a65c_grow_92f84 ∈ GW := mGA16 _ (List.mem_of_getElem? (i := 3) rfl)
theorem gw_16_4 : Cond.code yJx4a65c_add_72be8 cJx4a65c_add_72be8 4 none ∈ GW := mGA16 _ (List.mem_of_getElem? (i := 4) rfl)
theorem gw_16_5 : Cond.methodLink RJx4a65c 129 yJx4a65c_grow_d5877 ∈ GW := mGA16 _ (List.mem_of_getElem? (i := 5) rfl)
theorem gw_16_6 : Cond.instanceMethod yJx4a65c_grow_d5877 ∈ GW := mGA16 _ (List.mem_of_getElem? (i := 6) rfl)
theorem gw_16_7 : Cond.selects RJx4a65c yJx4a65c_grow_d5877 yJx4a65c_grow_d5877 ∈ GW := mGA16 _ (List.mem_of_getElem? (i := 7) rfl)
theorem gw_16_8 : Cond.code yJx4a65c_add_9ea2d cJx4a65c_add_9ea2d 2 (some .boolean) ∈ GW := mGA16 _ (List.mem_of_getElem? (i := 8) rfl)
theorem gw_16_9 : Cond.fieldLink RJx4a65c 63 "java/util/ArrayList" "modCount" "I" ∈ GW := mGA16 _ (List.mem_of_getElem? (i := 9) rfl)
theorem gw_16_10 : Cond.sameField "java/util/ArrayList" "java/util/AbstractList" "modCount" "I" ∈ GW := mGA16 _ (List.mem_of_getElem? (i := 10) rfl)
theorem gw_16_11 : Cond.methodLink RJx4a65c 131 yJx4a65c_add_72be8 ∈ GW := mGA16 _ (List.mem_of_getElem? (i := 11) rfl)
theorem gw_16_12 : Cond.instanceMethod yJx4a65c_add_72be8 ∈ GW := mGA16 _ (List.mem_of_getElem? (i := 12) rfl)
theorem gw_16_13 : Cond.selects RJx4a65c yJx4a65c_add_72be8 yJx4a65c_add_72be8 ∈ GW := mGA16 _ (List.mem_of_getElem? (i := 13) rfl)
theorem gw_16_14 : Cond.code yX6_init cX6_init 7 none ∈ GW := mGA16 _ (List.mem_of_getElem? (i := 14) rfl)
theorem gw_16_15 : Cond.methodLink RX6 3 objectInit ∈ GW := mGA16 _ (List.mem_of_getElem? (i := 15) rfl)
theorem gw_16_16 : Cond.classLink RX6 9 RJx4a65c ∈ GW := mGA16 _ (List.mem_of_getElem? (i := 16) rfl)
theorem gw_16_17 : Cond.classLink RX6 28 RX3 ∈ GW := mGA16 _ (List.mem_of_getElem? (i := 17) rfl)
theorem gw_16_18 : Cond.instantiable RX3 3 ∈ GW := mGA16 _ (List.mem_of_getElem? (i := 18) rfl)
theorem gw_16_19 : Cond.fieldLink RX6 45 "Housestyle$Rule" "ownRank" "I" ∈ GW := mGA16 _ (List.mem_of_getElem? (i := 19) rfl)
theorem gw_16_20 : Cond.methodLink RX6 11 yJx4a65c_init_da8c8 ∈ GW := mGA16 _ (List.mem_of_getElem? (i := 20) rfl)
theorem gw_16_21 : Cond.methodLink RX6 30 yX3_init ∈ GW := mGA16 _ (List.mem_of_getElem? (i := 21) rfl)
theorem gw_16_22 : Cond.instanceMethod yX3_init ∈ GW := mGA16 _ (List.mem_of_getElem? (i := 22) rfl)
theorem gw_16_23 : Cond.methodLink RX6 33 yJx4a65c_add_9ea2d ∈ GW := mGA16 _ (List.mem_of_getElem? (i := 23) rfl)
theorem gw_17_0 : Cond.instanceMethod yJx4a65c_add_9ea2d ∈ GW := mGA17 _ (List.mem_of_getElem? (i := 0) rfl)
theorem gw_17_1 : Cond.selects RJx4a65c yJx4a65c_add_9ea2d yJx4a65c_add_9ea2d ∈ GW := mGA17 _ (List.mem_of_getElem? (i := 1) rfl)
theorem gw_17_2 : Cond.code yX6_isPattern cX6_isPattern 4 (some .boolean) ∈ GW := mGA17 _ (List.mem_of_getElem? (i := 2) rfl)
theorem gw_17_3 : Cond.methodLink RX6 55 yX3_isItem ∈ GW := mGA17 _ (List.mem_of_getElem? (i := 3) rfl)
theorem gw_17_4 : Cond.static yX3_isItem ∈ GW := mGA17 _ (List.mem_of_getElem? (i := 4) rfl)
theorem gw_17_5 : Cond.code yX9_isDigit cX9_isDigit 1 (some .boolean) ∈ GW := mGA17 _ (List.mem_of_getElem? (i := 5) rfl)
theorem gw_17_6 : Cond.code yX6_isSuggestion cX6_isSuggestion 4 (some .boolean) ∈ GW := mGA17 _ (List.mem_of_getElem? (i := 6) rfl)
theorem gw_17_7 : Cond.static yX9_isDigit ∈ GW := mGA17 _ (List.mem_of_getElem? (i := 7) rfl)
theorem gw_17_8 : Cond.code yX7_init cX7_init 1 none ∈ GW := mGA17 _ (List.mem_of_getElem? (i := 8) rfl)
theorem gw_17_9 : Cond.methodLink RX7 3 objectInit ∈ GW := mGA17 _ (List.mem_of_getElem? (i := 9) rfl)
theorem gw_17_10 : Cond.classLink RX7 9 RX5 ∈ GW := mGA17 _ (List.mem_of_getElem? (i := 10) rfl)
theorem gw_17_11 : Cond.fieldLink RX7 14 "Housestyle$Text" "signs" "LHousestyle$Row;" ∈ GW := mGA17 _ (List.mem_of_getElem? (i := 11) rfl)
theorem gw_17_12 : Cond.fieldLink RX7 20 "Housestyle$Text" "writers" "LHousestyle$Row;" ∈ GW := mGA17 _ (List.mem_of_getElem? (i := 12) rfl)
theorem gw_17_13 : Cond.fieldLink RX7 23 "Housestyle$Text" "changed" "LHousestyle$Row;" ∈ GW := mGA17 _ (List.mem_of_getElem? (i := 13) rfl)
theorem gw_17_14 : Cond.methodLink RX7 11 yX5_init ∈ GW := mGA17 _ (List.mem_of_getElem? (i := 14) rfl)
theorem gw_17_15 : Cond.methodLink RX7 26 yX5_add ∈ GW := mGA17 _ (List.mem_of_getElem? (i := 15) rfl)
theorem gw_17_16 : Cond.code yX7_paragraphAt cX7_paragraphAt 4 (some .int) ∈ GW := mGA17 _ (List.mem_of_getElem? (i := 16) rfl)
theorem gw_17_17 : Cond.methodLink RX7 29 yX5_count ∈ GW := mGA17 _ (List.mem_of_getElem? (i := 17) rfl)
theorem gw_17_18 : Cond.methodLink RX7 33 yX5_get ∈ GW := mGA17 _ (List.mem_of_getElem? (i := 18) rfl)
theorem gw_17_19 : Cond.code yX7_insert cX7_insert 5 none ∈ GW := mGA17 _ (List.mem_of_getElem? (i := 19) rfl)
theorem gw_17_20 : Cond.methodLink RX7 37 yX7_paragraphAt ∈ GW := mGA17 _ (List.mem_of_getElem? (i := 20) rfl)
theorem gw_17_21 : Cond.instanceMethod yX7_paragraphAt ∈ GW := mGA17 _ (List.mem_of_getElem? (i := 21) rfl)
theorem gw_17_22 : Cond.selects RX7 yX7_paragraphAt yX7_paragraphAt ∈ GW := mGA17 _ (List.mem_of_getElem? (i := 22) rfl)
theorem gw_17_23 : Cond.initialized RX7 ∈ GW := mGA17 _ (List.mem_of_getElem? (i := 23) rfl)
theorem gw_18_0 : Cond.methodLink RX7 40 yX5_insert ∈ GW := mGA18 _ (List.mem_of_getElem? (i := 0) rfl)
theorem gw_18_1 : Cond.instanceMethod yX5_insert ∈ GW := mGA18 _ (List.mem_of_getElem? (i := 1) rfl)
theorem gw_18_2 : Cond.selects RX5 yX5_insert yX5_insert ∈ GW := mGA18 _ (List.mem_of_getElem? (i := 2) rfl)
theorem gw_18_3 : Cond.methodLink RX7 44 yX5_set ∈ GW := mGA18 _ (List.mem_of_getElem? (i := 3) rfl)
theorem gw_18_4 : Cond.code yX7_remove cX7_remove 4 (some .char) ∈ GW := mGA18 _ (List.mem_of_getElem? (i := 4) rfl)
theorem gw_18_5 : Cond.methodLink RX7 47 yX5_remove ∈ GW := mGA18 _ (List.mem_of_getElem? (i := 5) rfl)
theorem gw_18_6 : Cond.code yX7_markAll cX7_markAll 3 none ∈ GW := mGA18 _ (List.mem_of_getElem? (i := 6) rfl)
theorem gw_18_7 : Cond.code yX7_clearChanged cX7_clearChanged 5 (some .int) ∈ GW := mGA18 _ (List.mem_of_getElem? (i := 7) rfl)
theorem gw_18_8 : Cond.code yX8_init cX8_init 2 none ∈ GW := mGA18 _ (List.mem_of_getElem? (i := 8) rfl)
theorem gw_18_9 : Cond.methodLink RX8 3 objectInit ∈ GW := mGA18 _ (List.mem_of_getElem? (i := 9) rfl)
theorem gw_18_10 : Cond.classLink RX8 15 RX5 ∈ GW := mGA18 _ (List.mem_of_getElem? (i := 10) rfl)
theorem gw_18_11 : Cond.fieldLink RX8 41 "Housestyle$Tokens" "isInQuote" "Z" ∈ GW := mGA18 _ (List.mem_of_getElem? (i := 11) rfl)
theorem gw_18_12 : Cond.fieldLink RX8 45 "Housestyle$Tokens" "isAtBegin" "Z" ∈ GW := mGA18 _ (List.mem_of_getElem? (i := 12) rfl)
theorem gw_18_13 : Cond.fieldLink RX8 48 "Housestyle$Tokens" "last" "I" ∈ GW := mGA18 _ (List.mem_of_getElem? (i := 13) rfl)
theorem gw_18_14 : Cond.methodLink RX8 17 yX5_init ∈ GW := mGA18 _ (List.mem_of_getElem? (i := 14) rfl)
theorem gw_18_15 : Cond.code yX8_clear cX8_clear 1 none ∈ GW := mGA18 _ (List.mem_of_getElem? (i := 15) rfl)
theorem gw_18_16 : Cond.methodLink RX8 79 yX5_clear ∈ GW := mGA18 _ (List.mem_of_getElem? (i := 16) rfl)
theorem gw_18_17 : Cond.code yX8_beginParagraph cX8_beginParagraph 1 none ∈ GW := mGA18 _ (List.mem_of_getElem? (i := 17) rfl)
theorem gw_18_18 : Cond.code yX8_kindOf cX8_kindOf 1 (some .int) ∈ GW := mGA18 _ (List.mem_of_getElem? (i := 18) rfl)
theorem gw_18_19 : Cond.code yX8_passSign cX8_passSign 2 none ∈ GW := mGA18 _ (List.mem_of_getElem? (i := 19) rfl)
theorem gw_18_20 : Cond.methodLink RX8 55 yX8_beginParagraph ∈ GW := mGA18 _ (List.mem_of_getElem? (i := 20) rfl)
theorem gw_18_21 : Cond.instanceMethod yX8_beginParagraph ∈ GW := mGA18 _ (List.mem_of_getElem? (i := 21) rfl)
theorem gw_18_22 : Cond.selects RX8 yX8_beginParagraph yX8_beginParagraph ∈ GW := mGA18 _ (List.mem_of_getElem? (i := 22) rfl)
theorem gw_18_23 : Cond.code yX8_beginToken cX8_beginToken 3 none ∈ GW := mGA18 _ (List.mem_of_getElem? (i := 23) rfl)
theorem gw_19_0 : Cond.code yX8_lengthen cX8_lengthen 3 none ∈ GW := mGA19 _ (List.mem_of_getElem? (i := 0) rfl)
theorem gw_19_1 : Cond.methodLink RX8 94 Lib.Math.min.name ∈ GW := mGA19 _ (List.mem_of_getElem? (i := 1) rfl)
theorem gw_19_2 : Cond.methodLink RX8 91 yX5_set ∈ GW := mGA19 _ (List.mem_of_getElem? (i := 2) rfl)
theorem gw_19_3 : Cond.code yX8_read cX8_read 5 none ∈ GW := mGA19 _ (List.mem_of_getElem? (i := 3) rfl)
theorem gw_19_4 : Cond.methodLink RX8 52 yX8_clear ∈ GW := mGA19 _ (List.mem_of_getElem? (i := 4) rfl)
theorem gw_19_5 : Cond.instanceMethod yX8_clear ∈ GW := mGA19 _ (List.mem_of_getElem? (i := 5) rfl)
theorem gw_19_6 : Cond.selects RX8 yX8_clear yX8_clear ∈ GW := mGA19 _ (List.mem_of_getElem? (i := 6) rfl)
theorem gw_19_7 : Cond.methodLink RX8 66 yX8_kindOf ∈ GW := mGA19 _ (List.mem_of_getElem? (i := 7) rfl)
theorem gw_19_8 : Cond.static yX8_kindOf ∈ GW := mGA19 _ (List.mem_of_getElem? (i := 8) rfl)
theorem gw_19_9 : Cond.methodLink RX8 69 yX8_passSign ∈ GW := mGA19 _ (List.mem_of_getElem? (i := 9) rfl)
theorem gw_19_10 : Cond.instanceMethod yX8_passSign ∈ GW := mGA19 _ (List.mem_of_getElem? (i := 10) rfl)
theorem gw_19_11 : Cond.selects RX8 yX8_passSign yX8_passSign ∈ GW := mGA19 _ (List.mem_of_getElem? (i := 11) rfl)
theorem gw_19_12 : Cond.methodLink RX8 72 yX8_beginToken ∈ GW := mGA19 _ (List.mem_of_getElem? (i := 12) rfl)
theorem gw_19_13 : Cond.instanceMethod yX8_beginToken ∈ GW := mGA19 _ (List.mem_of_getElem? (i := 13) rfl)
theorem gw_19_14 : Cond.selects RX8 yX8_beginToken yX8_beginToken ∈ GW := mGA19 _ (List.mem_of_getElem? (i := 14) rfl)
theorem gw_19_15 : Cond.methodLink RX8 76 yX8_lengthen ∈ GW := mGA19 _ (List.mem_of_getElem? (i := 15) rfl)
theorem gw_19_16 : Cond.instanceMethod yX8_lengthen ∈ GW := mGA19 _ (List.mem_of_getElem? (i := 16) rfl)
theorem gw_19_17 : Cond.selects RX8 yX8_lengthen yX8_lengthen ∈ GW := mGA19 _ (List.mem_of_getElem? (i := 17) rfl)
theorem gw_19_18 : Cond.code yX9_init cX9_init 2 none ∈ GW := mGA19 _ (List.mem_of_getElem? (i := 18) rfl)
theorem gw_19_19 : Cond.methodLink RX9 1 objectInit ∈ GW := mGA19 _ (List.mem_of_getElem? (i := 19) rfl)
theorem gw_19_20 : Cond.classLink RX9 7 RX5 ∈ GW := mGA19 _ (List.mem_of_getElem? (i := 20) rfl)
theorem gw_19_21 : Cond.fieldLink RX9 14 "Housestyle" "typed" "LHousestyle$Row;" ∈ GW := mGA19 _ (List.mem_of_getElem? (i := 21) rfl)
theorem gw_19_22 : Cond.classLink RX9 18 RX7 ∈ GW := mGA19 _ (List.mem_of_getElem? (i := 22) rfl)
theorem gw_19_23 : Cond.instantiable RX7 3 ∈ GW := mGA19 _ (List.mem_of_getElem? (i := 23) rfl)
theorem gw_20_0 : Cond.fieldLink RX9 21 "Housestyle" "text" "LHousestyle$Text;" ∈ GW := mGA20 _ (List.mem_of_getElem? (i := 0) rfl)
theorem gw_20_1 : Cond.classLink RX9 25 RX8 ∈ GW := mGA20 _ (List.mem_of_getElem? (i := 1) rfl)
theorem gw_20_2 : Cond.instantiable RX8 11 ∈ GW := mGA20 _ (List.mem_of_getElem? (i := 2) rfl)
theorem gw_20_3 : Cond.fieldLink RX9 33 "Housestyle" "tokens" "LHousestyle$Tokens;" ∈ GW := mGA20 _ (List.mem_of_getElem? (i := 3) rfl)
theorem gw_20_4 : Cond.classLink RX9 37 RX0 ∈ GW := mGA20 _ (List.mem_of_getElem? (i := 4) rfl)
theorem gw_20_5 : Cond.instantiable RX0 3 ∈ GW := mGA20 _ (List.mem_of_getElem? (i := 5) rfl)
theorem gw_20_6 : Cond.fieldLink RX9 40 "Housestyle" "book" "LHousestyle$Book;" ∈ GW := mGA20 _ (List.mem_of_getElem? (i := 6) rfl)
theorem gw_20_7 : Cond.classLink RX9 44 RJx4a65c ∈ GW := mGA20 _ (List.mem_of_getElem? (i := 7) rfl)
theorem gw_20_8 : Cond.fieldLink RX9 47 "Housestyle" "desks" "Ljava/util/ArrayList;" ∈ GW := mGA20 _ (List.mem_of_getElem? (i := 8) rfl)
theorem gw_20_9 : Cond.classLink RX9 51 RX1 ∈ GW := mGA20 _ (List.mem_of_getElem? (i := 9) rfl)
theorem gw_20_10 : Cond.instantiable RX1 6 ∈ GW := mGA20 _ (List.mem_of_getElem? (i := 10) rfl)
theorem gw_20_11 : Cond.classLink RX9 58 RX2 ∈ GW := mGA20 _ (List.mem_of_getElem? (i := 11) rfl)
theorem gw_20_12 : Cond.instantiable RX2 6 ∈ GW := mGA20 _ (List.mem_of_getElem? (i := 12) rfl)
theorem gw_20_13 : Cond.fieldLink RX9 63 "Housestyle" "found" "LHousestyle$Findings;" ∈ GW := mGA20 _ (List.mem_of_getElem? (i := 13) rfl)
theorem gw_20_14 : Cond.fieldLink RX9 67 "Housestyle" "proposal" "LHousestyle$Row;" ∈ GW := mGA20 _ (List.mem_of_getElem? (i := 14) rfl)
theorem gw_20_15 : Cond.fieldLink RX9 70 "Housestyle" "isRead" "Z" ∈ GW := mGA20 _ (List.mem_of_getElem? (i := 15) rfl)
theorem gw_20_16 : Cond.fieldLink RX9 74 "Housestyle" "solvedDesk" "I" ∈ GW := mGA20 _ (List.mem_of_getElem? (i := 16) rfl)
theorem gw_20_17 : Cond.methodLink RX9 11 yX5_init ∈ GW := mGA20 _ (List.mem_of_getElem? (i := 17) rfl)
theorem gw_20_18 : Cond.methodLink RX9 20 yX7_init ∈ GW := mGA20 _ (List.mem_of_getElem? (i := 18) rfl)
theorem gw_20_19 : Cond.instanceMethod yX7_init ∈ GW := mGA20 _ (List.mem_of_getElem? (i := 19) rfl)
theorem gw_20_20 : Cond.methodLink RX9 30 yX8_init ∈ GW := mGA20 _ (List.mem_of_getElem? (i := 20) rfl)
theorem gw_20_21 : Cond.instanceMethod yX8_init ∈ GW := mGA20 _ (List.mem_of_getElem? (i := 21) rfl)
theorem gw_20_22 : Cond.methodLink RX9 39 yX0_init ∈ GW := mGA20 _ (List.mem_of_getElem? (i := 22) rfl)
theorem gw_20_23 : Cond.instanceMethod yX0_init ∈ GW := mGA20 _ (List.mem_of_getElem? (i := 23) rfl)
theorem gw_21_0 : Cond.methodLink RX9 46 yJx4a65c_init_da8c8 ∈ GW := mGA21 _ (List.mem_of_getElem? (i := 0) rfl)
theorem gw_21_1 : Cond.methodLink RX9 53 yX1_init ∈ GW := mGA21 _ (List.mem_of_getElem? (i := 1) rfl)
theorem gw_21_2 : Cond.instanceMethod yX1_init ∈ GW := mGA21 _ (List.mem_of_getElem? (i := 2) rfl)
theorem gw_21_3 : Cond.methodLink RX9 54 yJx4a65c_add_9ea2d ∈ GW := mGA21 _ (List.mem_of_getElem? (i := 3) rfl)
theorem gw_21_4 : Cond.methodLink RX9 60 yX2_init ∈ GW := mGA21 _ (List.mem_of_getElem? (i := 4) rfl)
theorem gw_21_5 : Cond.instanceMethod yX2_init ∈ GW := mGA21 _ (List.mem_of_getElem? (i := 5) rfl)
theorem gw_21_6 : Cond.code yX9_isTypeable cX9_isTypeable 1 (some .boolean) ∈ GW := mGA21 _ (List.mem_of_getElem? (i := 6) rfl)
theorem gw_21_7 : Cond.methodLink RX9 335 yX9_isDigit ∈ GW := mGA21 _ (List.mem_of_getElem? (i := 7) rfl)
theorem gw_21_8 : Cond.code yX9_type cX9_type 2 (some .int) ∈ GW := mGA21 _ (List.mem_of_getElem? (i := 8) rfl)
theorem gw_21_9 : Cond.classLink RX9 82 "java/lang/IllegalArgumentException" ∈ GW := mGA21 _ (List.mem_of_getElem? (i := 9) rfl)
theorem gw_21_10 : Cond.initialized "java/lang/IllegalArgumentException" ∈ GW := mGA21 _ (List.mem_of_getElem? (i := 10) rfl)
theorem gw_21_11 : Cond.classLink RX9 93 "java/lang/IllegalStateException" ∈ GW := mGA21 _ (List.mem_of_getElem? (i := 11) rfl)
theorem gw_21_12 : Cond.initialized "java/lang/IllegalStateException" ∈ GW := mGA21 _ (List.mem_of_getElem? (i := 12) rfl)
theorem gw_21_13 : Cond.methodLink RX9 78 yX9_isTypeable ∈ GW := mGA21 _ (List.mem_of_getElem? (i := 13) rfl)
theorem gw_21_14 : Cond.static yX9_isTypeable ∈ GW := mGA21 _ (List.mem_of_getElem? (i := 14) rfl)
theorem gw_21_15 : Cond.methodLink RX9 89 yX5_count ∈ GW := mGA21 _ (List.mem_of_getElem? (i := 15) rfl)
theorem gw_21_16 : Cond.methodLink RX9 98 yX5_add ∈ GW := mGA21 _ (List.mem_of_getElem? (i := 16) rfl)
theorem gw_21_17 : Cond.code yX9_wipe cX9_wipe 2 (some .int) ∈ GW := mGA21 _ (List.mem_of_getElem? (i := 17) rfl)
theorem gw_21_18 : Cond.methodLink RX9 100 yX5_clear ∈ GW := mGA21 _ (List.mem_of_getElem? (i := 18) rfl)
theorem gw_21_19 : Cond.code yX9_isTextSign cX9_isTextSign 1 (some .boolean) ∈ GW := mGA21 _ (List.mem_of_getElem? (i := 19) rfl)
theorem gw_21_20 : Cond.code yX9_isWriter cX9_isWriter 1 (some .boolean) ∈ GW := mGA21 _ (List.mem_of_getElem? (i := 20) rfl)
theorem gw_21_21 : Cond.code yX9_noteStale cX9_noteStale 1 none ∈ GW := mGA21 _ (List.mem_of_getElem? (i := 21) rfl)
theorem gw_21_22 : Cond.code yX9_putIn cX9_putIn 5 none ∈ GW := mGA21 _ (List.mem_of_getElem? (i := 22) rfl)
theorem gw_21_23 : Cond.classLink RX9 51 "Housestyle$Desk" ∈ GW := mGA21 _ (List.mem_of_getElem? (i := 23) rfl)
theorem gw_22_0 : Cond.methodLink RX9 362 yX7_insert ∈ GW := mGA22 _ (List.mem_of_getElem? (i := 0) rfl)
theorem gw_22_1 : Cond.instanceMethod yX7_insert ∈ GW := mGA22 _ (List.mem_of_getElem? (i := 1) rfl)
theorem gw_22_2 : Cond.selects RX7 yX7_insert yX7_insert ∈ GW := mGA22 _ (List.mem_of_getElem? (i := 2) rfl)
theorem gw_22_3 : Cond.methodLink RX9 150 yJx4a65c_size_8abf5 ∈ GW := mGA22 _ (List.mem_of_getElem? (i := 3) rfl)
theorem gw_22_4 : Cond.methodLink RX9 338 yJx4a65c_get_915e3 ∈ GW := mGA22 _ (List.mem_of_getElem? (i := 4) rfl)
theorem gw_22_5 : Cond.methodLink RX9 365 yX1_followPut ∈ GW := mGA22 _ (List.mem_of_getElem? (i := 5) rfl)
theorem gw_22_6 : Cond.instanceMethod yX1_followPut ∈ GW := mGA22 _ (List.mem_of_getElem? (i := 6) rfl)
theorem gw_22_7 : Cond.selects RX1 yX1_followPut yX1_followPut ∈ GW := mGA22 _ (List.mem_of_getElem? (i := 7) rfl)
theorem gw_22_8 : Cond.methodLink RX9 368 yX9_noteStale ∈ GW := mGA22 _ (List.mem_of_getElem? (i := 8) rfl)
theorem gw_22_9 : Cond.instanceMethod yX9_noteStale ∈ GW := mGA22 _ (List.mem_of_getElem? (i := 9) rfl)
theorem gw_22_10 : Cond.selects RX9 yX9_noteStale yX9_noteStale ∈ GW := mGA22 _ (List.mem_of_getElem? (i := 10) rfl)
theorem gw_22_11 : Cond.code yX9_put cX9_put 4 (some .int) ∈ GW := mGA22 _ (List.mem_of_getElem? (i := 11) rfl)
theorem gw_22_12 : Cond.classLink RX9 103 "java/lang/IndexOutOfBoundsException" ∈ GW := mGA22 _ (List.mem_of_getElem? (i := 12) rfl)
theorem gw_22_13 : Cond.initialized "java/lang/IndexOutOfBoundsException" ∈ GW := mGA22 _ (List.mem_of_getElem? (i := 13) rfl)
theorem gw_22_14 : Cond.methodLink RX9 108 yX9_isTextSign ∈ GW := mGA22 _ (List.mem_of_getElem? (i := 14) rfl)
theorem gw_22_15 : Cond.static yX9_isTextSign ∈ GW := mGA22 _ (List.mem_of_getElem? (i := 15) rfl)
theorem gw_22_16 : Cond.methodLink RX9 111 yX9_isWriter ∈ GW := mGA22 _ (List.mem_of_getElem? (i := 16) rfl)
theorem gw_22_17 : Cond.static yX9_isWriter ∈ GW := mGA22 _ (List.mem_of_getElem? (i := 17) rfl)
theorem gw_22_18 : Cond.methodLink RX9 119 yX9_putIn ∈ GW := mGA22 _ (List.mem_of_getElem? (i := 18) rfl)
theorem gw_22_19 : Cond.instanceMethod yX9_putIn ∈ GW := mGA22 _ (List.mem_of_getElem? (i := 19) rfl)
theorem gw_22_20 : Cond.selects RX9 yX9_putIn yX9_putIn ∈ GW := mGA22 _ (List.mem_of_getElem? (i := 20) rfl)
theorem gw_22_21 : Cond.code yX9_needPlace cX9_needPlace 2 none ∈ GW := mGA22 _ (List.mem_of_getElem? (i := 21) rfl)
theorem gw_22_22 : Cond.code yX9_takeOut cX9_takeOut 4 (some .char) ∈ GW := mGA22 _ (List.mem_of_getElem? (i := 22) rfl)
theorem gw_22_23 : Cond.methodLink RX9 371 yX7_remove ∈ GW := mGA22 _ (List.mem_of_getElem? (i := 23) rfl)
theorem gw_23_0 : Cond.instanceMethod yX7_remove ∈ GW := mGA23 _ (List.mem_of_getElem? (i := 0) rfl)
theorem gw_23_1 : Cond.selects RX7 yX7_remove yX7_remove ∈ GW := mGA23 _ (List.mem_of_getElem? (i := 1) rfl)
theorem gw_23_2 : Cond.methodLink RX9 374 yX1_followTake ∈ GW := mGA23 _ (List.mem_of_getElem? (i := 2) rfl)
theorem gw_23_3 : Cond.instanceMethod yX1_followTake ∈ GW := mGA23 _ (List.mem_of_getElem? (i := 3) rfl)
theorem gw_23_4 : Cond.selects RX1 yX1_followTake yX1_followTake ∈ GW := mGA23 _ (List.mem_of_getElem? (i := 4) rfl)
theorem gw_23_5 : Cond.code yX9_take cX9_take 2 (some .char) ∈ GW := mGA23 _ (List.mem_of_getElem? (i := 5) rfl)
theorem gw_23_6 : Cond.methodLink RX9 123 yX9_needPlace ∈ GW := mGA23 _ (List.mem_of_getElem? (i := 6) rfl)
theorem gw_23_7 : Cond.instanceMethod yX9_needPlace ∈ GW := mGA23 _ (List.mem_of_getElem? (i := 7) rfl)
theorem gw_23_8 : Cond.selects RX9 yX9_needPlace yX9_needPlace ∈ GW := mGA23 _ (List.mem_of_getElem? (i := 8) rfl)
theorem gw_23_9 : Cond.methodLink RX9 126 yX9_takeOut ∈ GW := mGA23 _ (List.mem_of_getElem? (i := 9) rfl)
theorem gw_23_10 : Cond.instanceMethod yX9_takeOut ∈ GW := mGA23 _ (List.mem_of_getElem? (i := 10) rfl)
theorem gw_23_11 : Cond.selects RX9 yX9_takeOut yX9_takeOut ∈ GW := mGA23 _ (List.mem_of_getElem? (i := 11) rfl)
theorem gw_23_12 : Cond.code yX9_at cX9_at 2 (some .char) ∈ GW := mGA23 _ (List.mem_of_getElem? (i := 12) rfl)
theorem gw_23_13 : Cond.code yX9_length cX9_length 1 (some .int) ∈ GW := mGA23 _ (List.mem_of_getElem? (i := 13) rfl)
theorem gw_23_14 : Cond.code yX9_noteTold cX9_noteTold 1 none ∈ GW := mGA23 _ (List.mem_of_getElem? (i := 14) rfl)
theorem gw_23_15 : Cond.methodLink RX9 377 yX7_markAll ∈ GW := mGA23 _ (List.mem_of_getElem? (i := 15) rfl)
theorem gw_23_16 : Cond.instanceMethod yX7_markAll ∈ GW := mGA23 _ (List.mem_of_getElem? (i := 16) rfl)
theorem gw_23_17 : Cond.selects RX7 yX7_markAll yX7_markAll ∈ GW := mGA23 _ (List.mem_of_getElem? (i := 17) rfl)
theorem gw_23_18 : Cond.code yX9_rule cX9_rule 5 (some .int) ∈ GW := mGA23 _ (List.mem_of_getElem? (i := 18) rfl)
theorem gw_23_19 : Cond.classLink RX9 142 "java/lang/UnsupportedOperationException" ∈ GW := mGA23 _ (List.mem_of_getElem? (i := 19) rfl)
theorem gw_23_20 : Cond.initialized "java/lang/UnsupportedOperationException" ∈ GW := mGA23 _ (List.mem_of_getElem? (i := 20) rfl)
theorem gw_23_21 : Cond.classLink RX9 137 RX6 ∈ GW := mGA23 _ (List.mem_of_getElem? (i := 21) rfl)
theorem gw_23_22 : Cond.instantiable RX6 6 ∈ GW := mGA23 _ (List.mem_of_getElem? (i := 22) rfl)
theorem gw_23_23 : Cond.methodLink RX9 136 yX6_isPattern ∈ GW := mGA23 _ (List.mem_of_getElem? (i := 23) rfl)
theorem gw_24_0 : Cond.static yX6_isPattern ∈ GW := mGA24 _ (List.mem_of_getElem? (i := 0) rfl)
theorem gw_24_1 : Cond.methodLink RX9 155 yX6_init ∈ GW := mGA24 _ (List.mem_of_getElem? (i := 1) rfl)
theorem gw_24_2 : Cond.instanceMethod yX6_init ∈ GW := mGA24 _ (List.mem_of_getElem? (i := 2) rfl)
theorem gw_24_3 : Cond.methodLink RX9 158 yX9_noteTold ∈ GW := mGA24 _ (List.mem_of_getElem? (i := 3) rfl)
theorem gw_24_4 : Cond.instanceMethod yX9_noteTold ∈ GW := mGA24 _ (List.mem_of_getElem? (i := 4) rfl)
theorem gw_24_5 : Cond.selects RX9 yX9_noteTold yX9_noteTold ∈ GW := mGA24 _ (List.mem_of_getElem? (i := 5) rfl)
theorem gw_24_6 : Cond.code yX9_ruleAt cX9_ruleAt 2 (some (.object "Housestyle$Rule")) ∈ GW := mGA24 _ (List.mem_of_getElem? (i := 6) rfl)
theorem gw_24_7 : Cond.classLink RX9 137 "Housestyle$Rule" ∈ GW := mGA24 _ (List.mem_of_getElem? (i := 7) rfl)
theorem gw_24_8 : Cond.code yX9_except cX9_except 3 (some .int) ∈ GW := mGA24 _ (List.mem_of_getElem? (i := 8) rfl)
theorem gw_24_9 : Cond.methodLink RX9 161 yX9_ruleAt ∈ GW := mGA24 _ (List.mem_of_getElem? (i := 9) rfl)
theorem gw_24_10 : Cond.instanceMethod yX9_ruleAt ∈ GW := mGA24 _ (List.mem_of_getElem? (i := 10) rfl)
theorem gw_24_11 : Cond.selects RX9 yX9_ruleAt yX9_ruleAt ∈ GW := mGA24 _ (List.mem_of_getElem? (i := 11) rfl)
theorem gw_24_12 : Cond.methodLink RX9 165 yX9_isWord ∈ GW := mGA24 _ (List.mem_of_getElem? (i := 12) rfl)
theorem gw_24_13 : Cond.methodLink RX9 176 yX5_part ∈ GW := mGA24 _ (List.mem_of_getElem? (i := 13) rfl)
theorem gw_24_14 : Cond.code yX9_suggest cX9_suggest 3 (some .int) ∈ GW := mGA24 _ (List.mem_of_getElem? (i := 14) rfl)
theorem gw_24_15 : Cond.methodLink RX9 180 yX6_isSuggestion ∈ GW := mGA24 _ (List.mem_of_getElem? (i := 15) rfl)
theorem gw_24_16 : Cond.static yX6_isSuggestion ∈ GW := mGA24 _ (List.mem_of_getElem? (i := 16) rfl)
theorem gw_24_17 : Cond.code yX9_pair cX9_pair 3 (some .int) ∈ GW := mGA24 _ (List.mem_of_getElem? (i := 17) rfl)
theorem gw_24_18 : Cond.classLink RX9 195 RX4 ∈ GW := mGA24 _ (List.mem_of_getElem? (i := 18) rfl)
theorem gw_24_19 : Cond.instantiable RX4 2 ∈ GW := mGA24 _ (List.mem_of_getElem? (i := 19) rfl)
theorem gw_24_20 : Cond.methodLink RX9 190 yX5_placeOf ∈ GW := mGA24 _ (List.mem_of_getElem? (i := 20) rfl)
theorem gw_24_21 : Cond.instanceMethod yX5_placeOf ∈ GW := mGA24 _ (List.mem_of_getElem? (i := 21) rfl)
theorem gw_24_22 : Cond.selects RX5 yX5_placeOf yX5_placeOf ∈ GW := mGA24 _ (List.mem_of_getElem? (i := 22) rfl)
theorem gw_24_23 : Cond.methodLink RX9 197 yX4_init ∈ GW := mGA24 _ (List.mem_of_getElem? (i := 23) rfl)
theorem gw_25_0 : Cond.instanceMethod yX4_init ∈ GW := mGA25 _ (List.mem_of_getElem? (i := 0) rfl)
theorem gw_25_1 : Cond.methodLink RX9 206 yX5_isLike ∈ GW := mGA25 _ (List.mem_of_getElem? (i := 1) rfl)
theorem gw_25_2 : Cond.instanceMethod yX5_isLike ∈ GW := mGA25 _ (List.mem_of_getElem? (i := 2) rfl)
theorem gw_25_3 : Cond.selects RX5 yX5_isLike yX5_isLike ∈ GW := mGA25 _ (List.mem_of_getElem? (i := 3) rfl)
theorem gw_25_4 : Cond.code yX9_deskAt cX9_deskAt 2 (some (.object "Housestyle$Desk")) ∈ GW := mGA25 _ (List.mem_of_getElem? (i := 4) rfl)
theorem gw_25_5 : Cond.code yX9_noteSettings cX9_noteSettings 2 none ∈ GW := mGA25 _ (List.mem_of_getElem? (i := 5) rfl)
theorem gw_25_6 : Cond.code yX9_use cX9_use 6 (some .boolean) ∈ GW := mGA25 _ (List.mem_of_getElem? (i := 6) rfl)
theorem gw_25_7 : Cond.methodLink RX9 216 yX9_deskAt ∈ GW := mGA25 _ (List.mem_of_getElem? (i := 7) rfl)
theorem gw_25_8 : Cond.instanceMethod yX9_deskAt ∈ GW := mGA25 _ (List.mem_of_getElem? (i := 8) rfl)
theorem gw_25_9 : Cond.selects RX9 yX9_deskAt yX9_deskAt ∈ GW := mGA25 _ (List.mem_of_getElem? (i := 9) rfl)
theorem gw_25_10 : Cond.methodLink RX9 220 yX1_uses ∈ GW := mGA25 _ (List.mem_of_getElem? (i := 10) rfl)
theorem gw_25_11 : Cond.instanceMethod yX1_uses ∈ GW := mGA25 _ (List.mem_of_getElem? (i := 11) rfl)
theorem gw_25_12 : Cond.selects RX1 yX1_uses yX1_uses ∈ GW := mGA25 _ (List.mem_of_getElem? (i := 12) rfl)
theorem gw_25_13 : Cond.methodLink RX9 223 yX1_setUse ∈ GW := mGA25 _ (List.mem_of_getElem? (i := 13) rfl)
theorem gw_25_14 : Cond.instanceMethod yX1_setUse ∈ GW := mGA25 _ (List.mem_of_getElem? (i := 14) rfl)
theorem gw_25_15 : Cond.selects RX1 yX1_setUse yX1_setUse ∈ GW := mGA25 _ (List.mem_of_getElem? (i := 15) rfl)
theorem gw_25_16 : Cond.methodLink RX9 227 yX9_noteSettings ∈ GW := mGA25 _ (List.mem_of_getElem? (i := 16) rfl)
theorem gw_25_17 : Cond.instanceMethod yX9_noteSettings ∈ GW := mGA25 _ (List.mem_of_getElem? (i := 17) rfl)
theorem gw_25_18 : Cond.selects RX9 yX9_noteSettings yX9_noteSettings ∈ GW := mGA25 _ (List.mem_of_getElem? (i := 18) rfl)
theorem gw_25_19 : Cond.code yX9_rank cX9_rank 6 (some .int) ∈ GW := mGA25 _ (List.mem_of_getElem? (i := 19) rfl)
theorem gw_25_20 : Cond.methodLink RX9 232 yX0_rankAt ∈ GW := mGA25 _ (List.mem_of_getElem? (i := 20) rfl)
theorem gw_25_21 : Cond.methodLink RX9 239 yX5_set ∈ GW := mGA25 _ (List.mem_of_getElem? (i := 21) rfl)
theorem gw_25_22 : Cond.code yX9_limit cX9_limit 5 (some .int) ∈ GW := mGA25 _ (List.mem_of_getElem? (i := 22) rfl)
theorem gw_25_23 : Cond.code yX9_findFor cX9_findFor 3 (some (.object "Housestyle$Desk")) ∈ GW := mGA25 _ (List.mem_of_getElem? (i := 23) rfl)
theorem gw_26_0 : Cond.methodLink RX9 294 yX8_read ∈ GW := mGA26 _ (List.mem_of_getElem? (i := 0) rfl)
theorem gw_26_1 : Cond.instanceMethod yX8_read ∈ GW := mGA26 _ (List.mem_of_getElem? (i := 1) rfl)
theorem gw_26_2 : Cond.selects RX8 yX8_read yX8_read ∈ GW := mGA26 _ (List.mem_of_getElem? (i := 2) rfl)
theorem gw_26_3 : Cond.methodLink RX9 354 yX0_look ∈ GW := mGA26 _ (List.mem_of_getElem? (i := 3) rfl)
theorem gw_26_4 : Cond.instanceMethod yX0_look ∈ GW := mGA26 _ (List.mem_of_getElem? (i := 4) rfl)
theorem gw_26_5 : Cond.selects RX0 yX0_look yX0_look ∈ GW := mGA26 _ (List.mem_of_getElem? (i := 5) rfl)
theorem gw_26_6 : Cond.methodLink RX9 358 yX2_solve ∈ GW := mGA26 _ (List.mem_of_getElem? (i := 6) rfl)
theorem gw_26_7 : Cond.instanceMethod yX2_solve ∈ GW := mGA26 _ (List.mem_of_getElem? (i := 7) rfl)
theorem gw_26_8 : Cond.selects RX2 yX2_solve yX2_solve ∈ GW := mGA26 _ (List.mem_of_getElem? (i := 8) rfl)
theorem gw_26_9 : Cond.code yX9_findings cX9_findings 2 (some .int) ∈ GW := mGA26 _ (List.mem_of_getElem? (i := 9) rfl)
theorem gw_26_10 : Cond.methodLink RX9 248 yX9_findFor ∈ GW := mGA26 _ (List.mem_of_getElem? (i := 10) rfl)
theorem gw_26_11 : Cond.instanceMethod yX9_findFor ∈ GW := mGA26 _ (List.mem_of_getElem? (i := 11) rfl)
theorem gw_26_12 : Cond.selects RX9 yX9_findFor yX9_findFor ∈ GW := mGA26 _ (List.mem_of_getElem? (i := 12) rfl)
theorem gw_26_13 : Cond.methodLink RX9 251 yX2_count ∈ GW := mGA26 _ (List.mem_of_getElem? (i := 13) rfl)
theorem gw_26_14 : Cond.code yX9_needFinding cX9_needFinding 2 none ∈ GW := mGA26 _ (List.mem_of_getElem? (i := 14) rfl)
theorem gw_26_15 : Cond.classLink RX9 275 "java/util/NoSuchElementException" ∈ GW := mGA26 _ (List.mem_of_getElem? (i := 15) rfl)
theorem gw_26_16 : Cond.initialized "java/util/NoSuchElementException" ∈ GW := mGA26 _ (List.mem_of_getElem? (i := 16) rfl)
theorem gw_26_17 : Cond.code yX9_of cX9_of 6 (some .int) ∈ GW := mGA26 _ (List.mem_of_getElem? (i := 17) rfl)
theorem gw_26_18 : Cond.methodLink RX9 254 yX9_needFinding ∈ GW := mGA26 _ (List.mem_of_getElem? (i := 18) rfl)
theorem gw_26_19 : Cond.instanceMethod yX9_needFinding ∈ GW := mGA26 _ (List.mem_of_getElem? (i := 19) rfl)
theorem gw_26_20 : Cond.selects RX9 yX9_needFinding yX9_needFinding ∈ GW := mGA26 _ (List.mem_of_getElem? (i := 20) rfl)
theorem gw_26_21 : Cond.methodLink RX9 257 yX2_ruleOf ∈ GW := mGA26 _ (List.mem_of_getElem? (i := 21) rfl)
theorem gw_26_22 : Cond.instanceMethod yX2_ruleOf ∈ GW := mGA26 _ (List.mem_of_getElem? (i := 22) rfl)
theorem gw_26_23 : Cond.selects RX2 yX2_ruleOf yX2_ruleOf ∈ GW := mGA26 _ (List.mem_of_getElem? (i := 23) rfl)
theorem gw_27_0 : Cond.methodLink RX9 260 yX2_fromOf ∈ GW := mGA27 _ (List.mem_of_getElem? (i := 0) rfl)
theorem gw_27_1 : Cond.methodLink RX9 263 yX2_lengthOf ∈ GW := mGA27 _ (List.mem_of_getElem? (i := 1) rfl)
theorem gw_27_2 : Cond.methodLink RX9 269 yX0_suggestionsOf ∈ GW := mGA27 _ (List.mem_of_getElem? (i := 2) rfl)
theorem gw_27_3 : Cond.instanceMethod yX0_suggestionsOf ∈ GW := mGA27 _ (List.mem_of_getElem? (i := 3) rfl)
theorem gw_27_4 : Cond.selects RX0 yX0_suggestionsOf yX0_suggestionsOf ∈ GW := mGA27 _ (List.mem_of_getElem? (i := 4) rfl)
theorem gw_27_5 : Cond.code yX9_propose cX9_propose 4 none ∈ GW := mGA27 _ (List.mem_of_getElem? (i := 5) rfl)
theorem gw_27_6 : Cond.methodLink RX9 347 yX2_tokenOf ∈ GW := mGA27 _ (List.mem_of_getElem? (i := 6) rfl)
theorem gw_27_7 : Cond.instanceMethod yX2_tokenOf ∈ GW := mGA27 _ (List.mem_of_getElem? (i := 7) rfl)
theorem gw_27_8 : Cond.selects RX2 yX2_tokenOf yX2_tokenOf ∈ GW := mGA27 _ (List.mem_of_getElem? (i := 8) rfl)
theorem gw_27_9 : Cond.methodLink RX9 350 yX0_writeSuggestion ∈ GW := mGA27 _ (List.mem_of_getElem? (i := 9) rfl)
theorem gw_27_10 : Cond.instanceMethod yX0_writeSuggestion ∈ GW := mGA27 _ (List.mem_of_getElem? (i := 10) rfl)
theorem gw_27_11 : Cond.selects RX0 yX0_writeSuggestion yX0_writeSuggestion ∈ GW := mGA27 _ (List.mem_of_getElem? (i := 11) rfl)
theorem gw_27_12 : Cond.code yX9_size cX9_size 4 (some .int) ∈ GW := mGA27 _ (List.mem_of_getElem? (i := 12) rfl)
theorem gw_27_13 : Cond.methodLink RX9 272 yX9_propose ∈ GW := mGA27 _ (List.mem_of_getElem? (i := 13) rfl)
theorem gw_27_14 : Cond.instanceMethod yX9_propose ∈ GW := mGA27 _ (List.mem_of_getElem? (i := 14) rfl)
theorem gw_27_15 : Cond.selects RX9 yX9_propose yX9_propose ∈ GW := mGA27 _ (List.mem_of_getElem? (i := 15) rfl)
theorem gw_27_16 : Cond.code yX9_sign cX9_sign 5 (some .char) ∈ GW := mGA27 _ (List.mem_of_getElem? (i := 16) rfl)
theorem gw_27_17 : Cond.code yX9_apply cX9_apply 8 (some .int) ∈ GW := mGA27 _ (List.mem_of_getElem? (i := 17) rfl)
theorem gw_27_18 : Cond.code yX9_ignore cX9_ignore 4 (some .int) ∈ GW := mGA27 _ (List.mem_of_getElem? (i := 18) rfl)
theorem gw_27_19 : Cond.methodLink RX9 282 yX1_ignoredCount ∈ GW := mGA27 _ (List.mem_of_getElem? (i := 19) rfl)
theorem gw_27_20 : Cond.methodLink RX9 287 yX1_addIgnored ∈ GW := mGA27 _ (List.mem_of_getElem? (i := 20) rfl)
theorem gw_27_21 : Cond.instanceMethod yX1_addIgnored ∈ GW := mGA27 _ (List.mem_of_getElem? (i := 21) rfl)
theorem gw_27_22 : Cond.selects RX1 yX1_addIgnored yX1_addIgnored ∈ GW := mGA27 _ (List.mem_of_getElem? (i := 22) rfl)
theorem gw_27_23 : Cond.code yX9_ignored cX9_ignored 2 (some .int) ∈ GW := mGA27 _ (List.mem_of_getElem? (i := 23) rfl)
theorem gw_28_0 : Cond.code yX9_heed cX9_heed 4 (some .int) ∈ GW := mGA28 _ (List.mem_of_getElem? (i := 0) rfl)
theorem gw_28_1 : Cond.methodLink RX9 291 yX1_clearIgnored ∈ GW := mGA28 _ (List.mem_of_getElem? (i := 1) rfl)
theorem gw_28_2 : Cond.instanceMethod yX1_clearIgnored ∈ GW := mGA28 _ (List.mem_of_getElem? (i := 2) rfl)
theorem gw_28_3 : Cond.selects RX1 yX1_clearIgnored yX1_clearIgnored ∈ GW := mGA28 _ (List.mem_of_getElem? (i := 3) rfl)
theorem gw_28_4 : Cond.code yX9_tokens cX9_tokens 4 (some .int) ∈ GW := mGA28 _ (List.mem_of_getElem? (i := 4) rfl)
theorem gw_28_5 : Cond.methodLink RX9 297 yX8_count ∈ GW := mGA28 _ (List.mem_of_getElem? (i := 5) rfl)
theorem gw_28_6 : Cond.methodLink RX9 298 yX8_isQuoted ∈ GW := mGA28 _ (List.mem_of_getElem? (i := 6) rfl)
theorem gw_28_7 : Cond.code yX9_paragraphs cX9_paragraphs 1 (some .int) ∈ GW := mGA28 _ (List.mem_of_getElem? (i := 7) rfl)
theorem gw_28_8 : Cond.code yX9_check cX9_check 2 (some .int) ∈ GW := mGA28 _ (List.mem_of_getElem? (i := 8) rfl)
theorem gw_28_9 : Cond.methodLink RX9 304 yX7_clearChanged ∈ GW := mGA28 _ (List.mem_of_getElem? (i := 9) rfl)
theorem gw_28_10 : Cond.instanceMethod yX7_clearChanged ∈ GW := mGA28 _ (List.mem_of_getElem? (i := 10) rfl)
theorem gw_28_11 : Cond.selects RX7 yX7_clearChanged yX7_clearChanged ∈ GW := mGA28 _ (List.mem_of_getElem? (i := 11) rfl)
theorem gw_28_12 : Cond.code yX9_byRule cX9_byRule 5 (some .int) ∈ GW := mGA28 _ (List.mem_of_getElem? (i := 12) rfl)
theorem gw_28_13 : Cond.code yX9_byWriter cX9_byWriter 5 (some .int) ∈ GW := mGA28 _ (List.mem_of_getElem? (i := 13) rfl)
theorem gw_28_14 : Cond.code yX9_checksum cX9_checksum 4 (some .long) ∈ GW := mGA28 _ (List.mem_of_getElem? (i := 14) rfl)
theorem gw_28_15 : Cond.constantLong RX9 309 (7) ∈ GW := mGA28 _ (List.mem_of_getElem? (i := 15) rfl)
theorem gw_28_16 : Cond.constantLong RX9 311 (31) ∈ GW := mGA28 _ (List.mem_of_getElem? (i := 16) rfl)
theorem gw_28_17 : Cond.code yX9_foundShare cX9_foundShare 5 (some .float) ∈ GW := mGA28 _ (List.mem_of_getElem? (i := 17) rfl)
theorem gw_28_18 : Cond.classLink RX9 313 "java/lang/ArithmeticException" ∈ GW := mGA28 _ (List.mem_of_getElem? (i := 18) rfl)
theorem gw_28_19 : Cond.initialized "java/lang/ArithmeticException" ∈ GW := mGA28 _ (List.mem_of_getElem? (i := 19) rfl)
theorem gw_28_20 : Cond.code yX9_meanWord cX9_meanWord 4 (some .double) ∈ GW := mGA28 _ (List.mem_of_getElem? (i := 20) rfl)
theorem gw_28_21 : Cond.methodLink RX9 318 yX8_isWord ∈ GW := mGA28 _ (List.mem_of_getElem? (i := 21) rfl)
theorem gw_28_22 : Cond.methodLink RX9 320 yX8_lengthOf ∈ GW := mGA28 _ (List.mem_of_getElem? (i := 22) rfl)
theorem gw_28_23 : Cond.code yX9_isSound cX9_isSound 4 (some .boolean) ∈ GW := mGA28 _ (List.mem_of_getElem? (i := 23) rfl)
theorem gw_29_0 : Cond.methodLink RX9 321 yX2_shareNoSign ∈ GW := mGA29 _ (List.mem_of_getElem? (i := 0) rfl)
theorem gw_29_1 : Cond.instanceMethod yX2_shareNoSign ∈ GW := mGA29 _ (List.mem_of_getElem? (i := 1) rfl)
theorem gw_29_2 : Cond.selects RX2 yX2_shareNoSign yX2_shareNoSign ∈ GW := mGA29 _ (List.mem_of_getElem? (i := 2) rfl)
theorem gw_29_3 : Cond.methodLink RX9 325 yX2_accountForAll ∈ GW := mGA29 _ (List.mem_of_getElem? (i := 3) rfl)
theorem gw_29_4 : Cond.instanceMethod yX2_accountForAll ∈ GW := mGA29 _ (List.mem_of_getElem? (i := 4) rfl)
theorem gw_29_5 : Cond.selects RX2 yX2_accountForAll yX2_accountForAll ∈ GW := mGA29 _ (List.mem_of_getElem? (i := 5) rfl)
theorem gw_29_6 : Cond.methodLink RX9 329 yX1_ignoredLieWithin ∈ GW := mGA29 _ (List.mem_of_getElem? (i := 6) rfl)
theorem gw_29_7 : Cond.instanceMethod yX1_ignoredLieWithin ∈ GW := mGA29 _ (List.mem_of_getElem? (i := 7) rfl)
theorem gw_29_8 : Cond.selects RX1 yX1_ignoredLieWithin yX1_ignoredLieWithin ∈ GW := mGA29 _ (List.mem_of_getElem? (i := 8) rfl)
theorem gw_29_9 : Cond.code yX10_init cX10_init 2 none ∈ GW := mGA29 _ (List.mem_of_getElem? (i := 9) rfl)
theorem gw_29_10 : Cond.methodLink RX10 1 objectInit ∈ GW := mGA29 _ (List.mem_of_getElem? (i := 10) rfl)
theorem gw_29_11 : Cond.arrayClass .char ∈ GW := mGA29 _ (List.mem_of_getElem? (i := 11) rfl)
theorem gw_29_12 : Cond.fieldLink RX10 7 "HousestyleModel" "text" "[C" ∈ GW := mGA29 _ (List.mem_of_getElem? (i := 12) rfl)
theorem gw_29_13 : Cond.fieldLink RX10 13 "HousestyleModel" "writers" "[I" ∈ GW := mGA29 _ (List.mem_of_getElem? (i := 13) rfl)
theorem gw_29_14 : Cond.fieldLink RX10 17 "HousestyleModel" "typed" "[C" ∈ GW := mGA29 _ (List.mem_of_getElem? (i := 14) rfl)
theorem gw_29_15 : Cond.fieldLink RX10 20 "HousestyleModel" "items" "[I" ∈ GW := mGA29 _ (List.mem_of_getElem? (i := 15) rfl)
theorem gw_29_16 : Cond.fieldLink RX10 23 "HousestyleModel" "letters" "[C" ∈ GW := mGA29 _ (List.mem_of_getElem? (i := 16) rfl)
theorem gw_29_17 : Cond.fieldLink RX10 26 "HousestyleModel" "sizes" "[I" ∈ GW := mGA29 _ (List.mem_of_getElem? (i := 17) rfl)
theorem gw_29_18 : Cond.fieldLink RX10 29 "HousestyleModel" "sorts" "[I" ∈ GW := mGA29 _ (List.mem_of_getElem? (i := 18) rfl)
theorem gw_29_19 : Cond.fieldLink RX10 32 "HousestyleModel" "conditions" "[C" ∈ GW := mGA29 _ (List.mem_of_getElem? (i := 19) rfl)
theorem gw_29_20 : Cond.arrayClass .boolean ∈ GW := mGA29 _ (List.mem_of_getElem? (i := 20) rfl)
theorem gw_29_21 : Cond.fieldLink RX10 35 "HousestyleModel" "inQuotes" "[Z" ∈ GW := mGA29 _ (List.mem_of_getElem? (i := 21) rfl)
theorem gw_29_22 : Cond.fieldLink RX10 39 "HousestyleModel" "ranks" "[I" ∈ GW := mGA29 _ (List.mem_of_getElem? (i := 22) rfl)
theorem gw_29_23 : Cond.fieldLink RX10 42 "HousestyleModel" "exceptions" "[I" ∈ GW := mGA29 _ (List.mem_of_getElem? (i := 23) rfl)
theorem gw_30_0 : Cond.fieldLink RX10 45 "HousestyleModel" "excepted" "[C" ∈ GW := mGA30 _ (List.mem_of_getElem? (i := 0) rfl)
theorem gw_30_1 : Cond.fieldLink RX10 48 "HousestyleModel" "exceptedSizes" "[I" ∈ GW := mGA30 _ (List.mem_of_getElem? (i := 1) rfl)
theorem gw_30_2 : Cond.fieldLink RX10 51 "HousestyleModel" "suggestions" "[I" ∈ GW := mGA30 _ (List.mem_of_getElem? (i := 2) rfl)
theorem gw_30_3 : Cond.fieldLink RX10 54 "HousestyleModel" "suggested" "[C" ∈ GW := mGA30 _ (List.mem_of_getElem? (i := 3) rfl)
theorem gw_30_4 : Cond.fieldLink RX10 57 "HousestyleModel" "suggestedSizes" "[I" ∈ GW := mGA30 _ (List.mem_of_getElem? (i := 4) rfl)
theorem gw_30_5 : Cond.fieldLink RX10 60 "HousestyleModel" "paired" "[C" ∈ GW := mGA30 _ (List.mem_of_getElem? (i := 5) rfl)
theorem gw_30_6 : Cond.fieldLink RX10 63 "HousestyleModel" "pairedSizes" "[I" ∈ GW := mGA30 _ (List.mem_of_getElem? (i := 6) rfl)
theorem gw_30_7 : Cond.fieldLink RX10 66 "HousestyleModel" "isLeftOut" "[Z" ∈ GW := mGA30 _ (List.mem_of_getElem? (i := 7) rfl)
theorem gw_30_8 : Cond.fieldLink RX10 69 "HousestyleModel" "deskRanks" "[I" ∈ GW := mGA30 _ (List.mem_of_getElem? (i := 8) rfl)
theorem gw_30_9 : Cond.fieldLink RX10 72 "HousestyleModel" "limits" "[I" ∈ GW := mGA30 _ (List.mem_of_getElem? (i := 9) rfl)
theorem gw_30_10 : Cond.fieldLink RX10 75 "HousestyleModel" "ignored" "[I" ∈ GW := mGA30 _ (List.mem_of_getElem? (i := 10) rfl)
theorem gw_30_11 : Cond.fieldLink RX10 78 "HousestyleModel" "ignoredRules" "[I" ∈ GW := mGA30 _ (List.mem_of_getElem? (i := 11) rfl)
theorem gw_30_12 : Cond.fieldLink RX10 81 "HousestyleModel" "ignoredFrom" "[I" ∈ GW := mGA30 _ (List.mem_of_getElem? (i := 12) rfl)
theorem gw_30_13 : Cond.fieldLink RX10 84 "HousestyleModel" "ignoredTo" "[I" ∈ GW := mGA30 _ (List.mem_of_getElem? (i := 13) rfl)
theorem gw_30_14 : Cond.fieldLink RX10 87 "HousestyleModel" "hasChanged" "[Z" ∈ GW := mGA30 _ (List.mem_of_getElem? (i := 14) rfl)
theorem gw_30_15 : Cond.fieldLink RX10 90 "HousestyleModel" "from" "[I" ∈ GW := mGA30 _ (List.mem_of_getElem? (i := 15) rfl)
theorem gw_30_16 : Cond.fieldLink RX10 93 "HousestyleModel" "to" "[I" ∈ GW := mGA30 _ (List.mem_of_getElem? (i := 16) rfl)
theorem gw_30_17 : Cond.fieldLink RX10 96 "HousestyleModel" "isWord" "[Z" ∈ GW := mGA30 _ (List.mem_of_getElem? (i := 17) rfl)
theorem gw_30_18 : Cond.fieldLink RX10 99 "HousestyleModel" "paragraph" "[I" ∈ GW := mGA30 _ (List.mem_of_getElem? (i := 18) rfl)
theorem gw_30_19 : Cond.fieldLink RX10 102 "HousestyleModel" "isQuoted" "[Z" ∈ GW := mGA30 _ (List.mem_of_getElem? (i := 19) rfl)
theorem gw_30_20 : Cond.fieldLink RX10 105 "HousestyleModel" "foundToken" "[I" ∈ GW := mGA30 _ (List.mem_of_getElem? (i := 20) rfl)
theorem gw_30_21 : Cond.fieldLink RX10 108 "HousestyleModel" "foundTo" "[I" ∈ GW := mGA30 _ (List.mem_of_getElem? (i := 21) rfl)
theorem gw_30_22 : Cond.fieldLink RX10 111 "HousestyleModel" "foundRule" "[I" ∈ GW := mGA30 _ (List.mem_of_getElem? (i := 22) rfl)
theorem gw_30_23 : Cond.fieldLink RX10 114 "HousestyleModel" "foundRank" "[I" ∈ GW := mGA30 _ (List.mem_of_getElem? (i := 23) rfl)
theorem gw_31_0 : Cond.fieldLink RX10 117 "HousestyleModel" "takes" "[I" ∈ GW := mGA31 _ (List.mem_of_getElem? (i := 0) rfl)
theorem gw_31_1 : Cond.fieldLink RX10 120 "HousestyleModel" "out" "[C" ∈ GW := mGA31 _ (List.mem_of_getElem? (i := 1) rfl)
theorem gw_31_2 : Cond.code yX10_thrown cX10_thrown 1 (some .int) ∈ GW := mGA31 _ (List.mem_of_getElem? (i := 2) rfl)
theorem gw_31_3 : Cond.fieldLink RX10 123 "HousestyleModel" "thrown" "I" ∈ GW := mGA31 _ (List.mem_of_getElem? (i := 3) rfl)
theorem gw_31_4 : Cond.code yX10_in cX10_in 3 (some .boolean) ∈ GW := mGA31 _ (List.mem_of_getElem? (i := 4) rfl)
theorem gw_31_5 : Cond.code yX10_isLetter cX10_isLetter 1 (some .boolean) ∈ GW := mGA31 _ (List.mem_of_getElem? (i := 5) rfl)
theorem gw_31_6 : Cond.code yX10_isDigit cX10_isDigit 1 (some .boolean) ∈ GW := mGA31 _ (List.mem_of_getElem? (i := 6) rfl)
theorem gw_31_7 : Cond.code yX10_isDesk cX10_isDesk 1 (some .boolean) ∈ GW := mGA31 _ (List.mem_of_getElem? (i := 7) rfl)
theorem gw_31_8 : Cond.methodLink RX10 127 yX10_in ∈ GW := mGA31 _ (List.mem_of_getElem? (i := 8) rfl)
theorem gw_31_9 : Cond.static yX10_in ∈ GW := mGA31 _ (List.mem_of_getElem? (i := 9) rfl)
theorem gw_31_10 : Cond.initialized RX10 ∈ GW := mGA31 _ (List.mem_of_getElem? (i := 10) rfl)
theorem gw_31_11 : Cond.code yX10_noDesk cX10_noDesk 2 (some .boolean) ∈ GW := mGA31 _ (List.mem_of_getElem? (i := 11) rfl)
theorem gw_31_12 : Cond.methodLink RX10 131 yX10_isDesk ∈ GW := mGA31 _ (List.mem_of_getElem? (i := 12) rfl)
theorem gw_31_13 : Cond.static yX10_isDesk ∈ GW := mGA31 _ (List.mem_of_getElem? (i := 13) rfl)
theorem gw_31_14 : Cond.code yX10_noRule cX10_noRule 2 (some .boolean) ∈ GW := mGA31 _ (List.mem_of_getElem? (i := 14) rfl)
theorem gw_31_15 : Cond.fieldLink RX10 135 "HousestyleModel" "rules" "I" ∈ GW := mGA31 _ (List.mem_of_getElem? (i := 15) rfl)
theorem gw_31_16 : Cond.code yX10_type cX10_type 3 (some .int) ∈ GW := mGA31 _ (List.mem_of_getElem? (i := 16) rfl)
theorem gw_31_17 : Cond.fieldLink RX10 145 "HousestyleModel" "typedSize" "I" ∈ GW := mGA31 _ (List.mem_of_getElem? (i := 17) rfl)
theorem gw_31_18 : Cond.methodLink RX10 138 yX10_isLetter ∈ GW := mGA31 _ (List.mem_of_getElem? (i := 18) rfl)
theorem gw_31_19 : Cond.static yX10_isLetter ∈ GW := mGA31 _ (List.mem_of_getElem? (i := 19) rfl)
theorem gw_31_20 : Cond.methodLink RX10 142 yX10_isDigit ∈ GW := mGA31 _ (List.mem_of_getElem? (i := 20) rfl)
theorem gw_31_21 : Cond.static yX10_isDigit ∈ GW := mGA31 _ (List.mem_of_getElem? (i := 21) rfl)
theorem gw_31_22 : Cond.code yX10_wipe cX10_wipe 2 (some .int) ∈ GW := mGA31 _ (List.mem_of_getElem? (i := 22) rfl)
theorem gw_31_23 : Cond.code yX10_lettersFrom cX10_lettersFrom 3 (some .int) ∈ GW := mGA31 _ (List.mem_of_getElem? (i := 23) rfl)
theorem gw_32_0 : Cond.code yX10_endsAhead cX10_endsAhead 4 (some .int) ∈ GW := mGA32 _ (List.mem_of_getElem? (i := 0) rfl)
theorem gw_32_1 : Cond.code yX10_paragraphsNow cX10_paragraphsNow 1 (some .int) ∈ GW := mGA32 _ (List.mem_of_getElem? (i := 1) rfl)
theorem gw_32_2 : Cond.fieldLink RX10 156 "HousestyleModel" "length" "I" ∈ GW := mGA32 _ (List.mem_of_getElem? (i := 2) rfl)
theorem gw_32_3 : Cond.methodLink RX10 159 yX10_endsAhead ∈ GW := mGA32 _ (List.mem_of_getElem? (i := 3) rfl)
theorem gw_32_4 : Cond.instanceMethod yX10_endsAhead ∈ GW := mGA32 _ (List.mem_of_getElem? (i := 4) rfl)
theorem gw_32_5 : Cond.selects RX10 yX10_endsAhead yX10_endsAhead ∈ GW := mGA32 _ (List.mem_of_getElem? (i := 5) rfl)
theorem gw_32_6 : Cond.code yX10_marks cX10_marks 3 none ∈ GW := mGA32 _ (List.mem_of_getElem? (i := 6) rfl)
theorem gw_32_7 : Cond.methodLink RX10 148 yX10_paragraphsNow ∈ GW := mGA32 _ (List.mem_of_getElem? (i := 7) rfl)
theorem gw_32_8 : Cond.instanceMethod yX10_paragraphsNow ∈ GW := mGA32 _ (List.mem_of_getElem? (i := 8) rfl)
theorem gw_32_9 : Cond.selects RX10 yX10_paragraphsNow yX10_paragraphsNow ∈ GW := mGA32 _ (List.mem_of_getElem? (i := 9) rfl)
theorem gw_32_10 : Cond.code yX10_marksAll cX10_marksAll 2 none ∈ GW := mGA32 _ (List.mem_of_getElem? (i := 10) rfl)
theorem gw_32_11 : Cond.methodLink RX10 152 yX10_marks ∈ GW := mGA32 _ (List.mem_of_getElem? (i := 11) rfl)
theorem gw_32_12 : Cond.instanceMethod yX10_marks ∈ GW := mGA32 _ (List.mem_of_getElem? (i := 12) rfl)
theorem gw_32_13 : Cond.selects RX10 yX10_marks yX10_marks ∈ GW := mGA32 _ (List.mem_of_getElem? (i := 13) rfl)
theorem gw_32_14 : Cond.code yX10_follows cX10_follows 12 none ∈ GW := mGA32 _ (List.mem_of_getElem? (i := 14) rfl)
theorem gw_32_15 : Cond.code yX10_puts cX10_puts 9 none ∈ GW := mGA32 _ (List.mem_of_getElem? (i := 15) rfl)
theorem gw_32_16 : Cond.methodLink RX10 163 yX10_follows ∈ GW := mGA32 _ (List.mem_of_getElem? (i := 16) rfl)
theorem gw_32_17 : Cond.instanceMethod yX10_follows ∈ GW := mGA32 _ (List.mem_of_getElem? (i := 17) rfl)
theorem gw_32_18 : Cond.selects RX10 yX10_follows yX10_follows ∈ GW := mGA32 _ (List.mem_of_getElem? (i := 18) rfl)
theorem gw_32_19 : Cond.code yX10_takesOut cX10_takesOut 8 none ∈ GW := mGA32 _ (List.mem_of_getElem? (i := 19) rfl)
theorem gw_32_20 : Cond.code yX10_put cX10_put 5 (some .int) ∈ GW := mGA32 _ (List.mem_of_getElem? (i := 20) rfl)
theorem gw_32_21 : Cond.methodLink RX10 167 yX10_puts ∈ GW := mGA32 _ (List.mem_of_getElem? (i := 21) rfl)
theorem gw_32_22 : Cond.instanceMethod yX10_puts ∈ GW := mGA32 _ (List.mem_of_getElem? (i := 22) rfl)
theorem gw_32_23 : Cond.selects RX10 yX10_puts yX10_puts ∈ GW := mGA32 _ (List.mem_of_getElem? (i := 23) rfl)
theorem gw_33_0 : Cond.code yX10_take cX10_take 3 (some .char) ∈ GW := mGA33 _ (List.mem_of_getElem? (i := 0) rfl)
theorem gw_33_1 : Cond.methodLink RX10 171 yX10_takesOut ∈ GW := mGA33 _ (List.mem_of_getElem? (i := 1) rfl)
theorem gw_33_2 : Cond.instanceMethod yX10_takesOut ∈ GW := mGA33 _ (List.mem_of_getElem? (i := 2) rfl)
theorem gw_33_3 : Cond.selects RX10 yX10_takesOut yX10_takesOut ∈ GW := mGA33 _ (List.mem_of_getElem? (i := 3) rfl)
theorem gw_33_4 : Cond.code yX10_at cX10_at 2 (some .char) ∈ GW := mGA33 _ (List.mem_of_getElem? (i := 4) rfl)
theorem gw_33_5 : Cond.code yX10_length cX10_length 1 (some .int) ∈ GW := mGA33 _ (List.mem_of_getElem? (i := 5) rfl)
theorem gw_33_6 : Cond.code yX10_isPattern cX10_isPattern 11 (some .boolean) ∈ GW := mGA33 _ (List.mem_of_getElem? (i := 6) rfl)
theorem gw_33_7 : Cond.methodLink RX10 174 yX10_lettersFrom ∈ GW := mGA33 _ (List.mem_of_getElem? (i := 7) rfl)
theorem gw_33_8 : Cond.instanceMethod yX10_lettersFrom ∈ GW := mGA33 _ (List.mem_of_getElem? (i := 8) rfl)
theorem gw_33_9 : Cond.selects RX10 yX10_lettersFrom yX10_lettersFrom ∈ GW := mGA33 _ (List.mem_of_getElem? (i := 9) rfl)
theorem gw_33_10 : Cond.code yX10_rule cX10_rule 5 (some .int) ∈ GW := mGA33 _ (List.mem_of_getElem? (i := 10) rfl)
theorem gw_33_11 : Cond.methodLink RX10 177 yX10_isPattern ∈ GW := mGA33 _ (List.mem_of_getElem? (i := 11) rfl)
theorem gw_33_12 : Cond.instanceMethod yX10_isPattern ∈ GW := mGA33 _ (List.mem_of_getElem? (i := 12) rfl)
theorem gw_33_13 : Cond.selects RX10 yX10_isPattern yX10_isPattern ∈ GW := mGA33 _ (List.mem_of_getElem? (i := 13) rfl)
theorem gw_33_14 : Cond.methodLink RX10 181 yX10_marksAll ∈ GW := mGA33 _ (List.mem_of_getElem? (i := 14) rfl)
theorem gw_33_15 : Cond.instanceMethod yX10_marksAll ∈ GW := mGA33 _ (List.mem_of_getElem? (i := 15) rfl)
theorem gw_33_16 : Cond.selects RX10 yX10_marksAll yX10_marksAll ∈ GW := mGA33 _ (List.mem_of_getElem? (i := 16) rfl)
theorem gw_33_17 : Cond.code yX10_except cX10_except 5 (some .int) ∈ GW := mGA33 _ (List.mem_of_getElem? (i := 17) rfl)
theorem gw_33_18 : Cond.methodLink RX10 184 yX10_noRule ∈ GW := mGA33 _ (List.mem_of_getElem? (i := 18) rfl)
theorem gw_33_19 : Cond.instanceMethod yX10_noRule ∈ GW := mGA33 _ (List.mem_of_getElem? (i := 19) rfl)
theorem gw_33_20 : Cond.selects RX10 yX10_noRule yX10_noRule ∈ GW := mGA33 _ (List.mem_of_getElem? (i := 20) rfl)
theorem gw_33_21 : Cond.code yX10_suggest cX10_suggest 6 (some .int) ∈ GW := mGA33 _ (List.mem_of_getElem? (i := 21) rfl)
theorem gw_33_22 : Cond.code yX10_pair cX10_pair 6 (some .int) ∈ GW := mGA33 _ (List.mem_of_getElem? (i := 22) rfl)
theorem gw_33_23 : Cond.fieldLink RX10 187 "HousestyleModel" "pairs" "I" ∈ GW := mGA33 _ (List.mem_of_getElem? (i := 23) rfl)
theorem gw_34_0 : Cond.code yX10_use cX10_use 5 (some .boolean) ∈ GW := mGA34 _ (List.mem_of_getElem? (i := 0) rfl)
theorem gw_34_1 : Cond.code yX10_rankAt cX10_rankAt 4 (some .int) ∈ GW := mGA34 _ (List.mem_of_getElem? (i := 1) rfl)
theorem gw_34_2 : Cond.code yX10_rank cX10_rank 5 (some .int) ∈ GW := mGA34 _ (List.mem_of_getElem? (i := 2) rfl)
theorem gw_34_3 : Cond.methodLink RX10 190 yX10_rankAt ∈ GW := mGA34 _ (List.mem_of_getElem? (i := 3) rfl)
theorem gw_34_4 : Cond.instanceMethod yX10_rankAt ∈ GW := mGA34 _ (List.mem_of_getElem? (i := 4) rfl)
theorem gw_34_5 : Cond.selects RX10 yX10_rankAt yX10_rankAt ∈ GW := mGA34 _ (List.mem_of_getElem? (i := 5) rfl)
theorem gw_34_6 : Cond.code yX10_limit cX10_limit 4 (some .int) ∈ GW := mGA34 _ (List.mem_of_getElem? (i := 6) rfl)
theorem gw_34_7 : Cond.code yX10_scan cX10_scan 7 none ∈ GW := mGA34 _ (List.mem_of_getElem? (i := 7) rfl)
theorem gw_34_8 : Cond.fieldLink RX10 194 "HousestyleModel" "tokens" "I" ∈ GW := mGA34 _ (List.mem_of_getElem? (i := 8) rfl)
theorem gw_34_9 : Cond.code yX10_isAnyQuoted cX10_isAnyQuoted 5 (some .boolean) ∈ GW := mGA34 _ (List.mem_of_getElem? (i := 9) rfl)
theorem gw_34_10 : Cond.code yX10_isFirstOfSentence cX10_isFirstOfSentence 4 (some .boolean) ∈ GW := mGA34 _ (List.mem_of_getElem? (i := 10) rfl)
theorem gw_34_11 : Cond.code yX10_fits cX10_fits 6 (some .boolean) ∈ GW := mGA34 _ (List.mem_of_getElem? (i := 11) rfl)
theorem gw_34_12 : Cond.code yX10_isAt cX10_isAt 5 (some .boolean) ∈ GW := mGA34 _ (List.mem_of_getElem? (i := 12) rfl)
theorem gw_34_13 : Cond.methodLink RX10 197 yX10_fits ∈ GW := mGA34 _ (List.mem_of_getElem? (i := 13) rfl)
theorem gw_34_14 : Cond.instanceMethod yX10_fits ∈ GW := mGA34 _ (List.mem_of_getElem? (i := 14) rfl)
theorem gw_34_15 : Cond.selects RX10 yX10_fits yX10_fits ∈ GW := mGA34 _ (List.mem_of_getElem? (i := 15) rfl)
theorem gw_34_16 : Cond.code yX10_isExcepted cX10_isExcepted 7 (some .boolean) ∈ GW := mGA34 _ (List.mem_of_getElem? (i := 16) rfl)
theorem gw_34_17 : Cond.code yX10_valueOf cX10_valueOf 4 (some .int) ∈ GW := mGA34 _ (List.mem_of_getElem? (i := 17) rfl)
theorem gw_34_18 : Cond.code yX10_wordOf cX10_wordOf 7 (some .int) ∈ GW := mGA34 _ (List.mem_of_getElem? (i := 18) rfl)
theorem gw_34_19 : Cond.code yX10_isIgnored cX10_isIgnored 7 (some .boolean) ∈ GW := mGA34 _ (List.mem_of_getElem? (i := 19) rfl)
theorem gw_34_20 : Cond.code yX10_finds cX10_finds 6 none ∈ GW := mGA34 _ (List.mem_of_getElem? (i := 20) rfl)
theorem gw_34_21 : Cond.fieldLink RX10 205 "HousestyleModel" "found" "I" ∈ GW := mGA34 _ (List.mem_of_getElem? (i := 21) rfl)
theorem gw_34_22 : Cond.methodLink RX10 201 yX10_isIgnored ∈ GW := mGA34 _ (List.mem_of_getElem? (i := 22) rfl)
theorem gw_34_23 : Cond.instanceMethod yX10_isIgnored ∈ GW := mGA34 _ (List.mem_of_getElem? (i := 23) rfl)
theorem gw_35_0 : Cond.selects RX10 yX10_isIgnored yX10_isIgnored ∈ GW := mGA35 _ (List.mem_of_getElem? (i := 0) rfl)
theorem gw_35_1 : Cond.code yX10_findsAll cX10_findsAll 6 none ∈ GW := mGA35 _ (List.mem_of_getElem? (i := 1) rfl)
theorem gw_35_2 : Cond.methodLink RX10 208 yX10_scan ∈ GW := mGA35 _ (List.mem_of_getElem? (i := 2) rfl)
theorem gw_35_3 : Cond.instanceMethod yX10_scan ∈ GW := mGA35 _ (List.mem_of_getElem? (i := 3) rfl)
theorem gw_35_4 : Cond.selects RX10 yX10_scan yX10_scan ∈ GW := mGA35 _ (List.mem_of_getElem? (i := 4) rfl)
theorem gw_35_5 : Cond.methodLink RX10 211 yX10_isAt ∈ GW := mGA35 _ (List.mem_of_getElem? (i := 5) rfl)
theorem gw_35_6 : Cond.instanceMethod yX10_isAt ∈ GW := mGA35 _ (List.mem_of_getElem? (i := 6) rfl)
theorem gw_35_7 : Cond.selects RX10 yX10_isAt yX10_isAt ∈ GW := mGA35 _ (List.mem_of_getElem? (i := 7) rfl)
theorem gw_35_8 : Cond.methodLink RX10 214 yX10_isFirstOfSentence ∈ GW := mGA35 _ (List.mem_of_getElem? (i := 8) rfl)
theorem gw_35_9 : Cond.instanceMethod yX10_isFirstOfSentence ∈ GW := mGA35 _ (List.mem_of_getElem? (i := 9) rfl)
theorem gw_35_10 : Cond.selects RX10 yX10_isFirstOfSentence yX10_isFirstOfSentence ∈ GW := mGA35 _ (List.mem_of_getElem? (i := 10) rfl)
theorem gw_35_11 : Cond.methodLink RX10 217 yX10_isAnyQuoted ∈ GW := mGA35 _ (List.mem_of_getElem? (i := 11) rfl)
theorem gw_35_12 : Cond.instanceMethod yX10_isAnyQuoted ∈ GW := mGA35 _ (List.mem_of_getElem? (i := 12) rfl)
theorem gw_35_13 : Cond.selects RX10 yX10_isAnyQuoted yX10_isAnyQuoted ∈ GW := mGA35 _ (List.mem_of_getElem? (i := 13) rfl)
theorem gw_35_14 : Cond.methodLink RX10 220 yX10_isExcepted ∈ GW := mGA35 _ (List.mem_of_getElem? (i := 14) rfl)
theorem gw_35_15 : Cond.instanceMethod yX10_isExcepted ∈ GW := mGA35 _ (List.mem_of_getElem? (i := 15) rfl)
theorem gw_35_16 : Cond.selects RX10 yX10_isExcepted yX10_isExcepted ∈ GW := mGA35 _ (List.mem_of_getElem? (i := 16) rfl)
theorem gw_35_17 : Cond.methodLink RX10 223 yX10_finds ∈ GW := mGA35 _ (List.mem_of_getElem? (i := 17) rfl)
theorem gw_35_18 : Cond.instanceMethod yX10_finds ∈ GW := mGA35 _ (List.mem_of_getElem? (i := 18) rfl)
theorem gw_35_19 : Cond.selects RX10 yX10_finds yX10_finds ∈ GW := mGA35 _ (List.mem_of_getElem? (i := 19) rfl)
theorem gw_35_20 : Cond.methodLink RX10 227 yX10_valueOf ∈ GW := mGA35 _ (List.mem_of_getElem? (i := 20) rfl)
theorem gw_35_21 : Cond.instanceMethod yX10_valueOf ∈ GW := mGA35 _ (List.mem_of_getElem? (i := 21) rfl)
theorem gw_35_22 : Cond.selects RX10 yX10_valueOf yX10_valueOf ∈ GW := mGA35 _ (List.mem_of_getElem? (i := 22) rfl)
theorem gw_35_23 : Cond.methodLink RX10 230 yX10_wordOf ∈ GW := mGA35 _ (List.mem_of_getElem? (i := 23) rfl)
theorem gw_36_0 : Cond.instanceMethod yX10_wordOf ∈ GW := mGA36 _ (List.mem_of_getElem? (i := 0) rfl)
theorem gw_36_1 : Cond.selects RX10 yX10_wordOf yX10_wordOf ∈ GW := mGA36 _ (List.mem_of_getElem? (i := 1) rfl)
theorem gw_36_2 : Cond.code yX10_placeOf cX10_placeOf 2 (some .int) ∈ GW := mGA36 _ (List.mem_of_getElem? (i := 2) rfl)
theorem gw_36_3 : Cond.code yX10_isAhead cX10_isAhead 3 (some .boolean) ∈ GW := mGA36 _ (List.mem_of_getElem? (i := 3) rfl)
theorem gw_36_4 : Cond.methodLink RX10 233 yX10_placeOf ∈ GW := mGA36 _ (List.mem_of_getElem? (i := 4) rfl)
theorem gw_36_5 : Cond.instanceMethod yX10_placeOf ∈ GW := mGA36 _ (List.mem_of_getElem? (i := 5) rfl)
theorem gw_36_6 : Cond.selects RX10 yX10_placeOf yX10_placeOf ∈ GW := mGA36 _ (List.mem_of_getElem? (i := 6) rfl)
theorem gw_36_7 : Cond.code yX10_isFree cX10_isFree 4 (some .boolean) ∈ GW := mGA36 _ (List.mem_of_getElem? (i := 7) rfl)
theorem gw_36_8 : Cond.fieldLink RX10 236 "HousestyleModel" "taken" "I" ∈ GW := mGA36 _ (List.mem_of_getElem? (i := 8) rfl)
theorem gw_36_9 : Cond.code yX10_look cX10_look 5 none ∈ GW := mGA36 _ (List.mem_of_getElem? (i := 9) rfl)
theorem gw_36_10 : Cond.methodLink RX10 239 yX10_findsAll ∈ GW := mGA36 _ (List.mem_of_getElem? (i := 10) rfl)
theorem gw_36_11 : Cond.instanceMethod yX10_findsAll ∈ GW := mGA36 _ (List.mem_of_getElem? (i := 11) rfl)
theorem gw_36_12 : Cond.selects RX10 yX10_findsAll yX10_findsAll ∈ GW := mGA36 _ (List.mem_of_getElem? (i := 12) rfl)
theorem gw_36_13 : Cond.methodLink RX10 242 yX10_isFree ∈ GW := mGA36 _ (List.mem_of_getElem? (i := 13) rfl)
theorem gw_36_14 : Cond.instanceMethod yX10_isFree ∈ GW := mGA36 _ (List.mem_of_getElem? (i := 14) rfl)
theorem gw_36_15 : Cond.selects RX10 yX10_isFree yX10_isFree ∈ GW := mGA36 _ (List.mem_of_getElem? (i := 15) rfl)
theorem gw_36_16 : Cond.methodLink RX10 245 yX10_isAhead ∈ GW := mGA36 _ (List.mem_of_getElem? (i := 16) rfl)
theorem gw_36_17 : Cond.instanceMethod yX10_isAhead ∈ GW := mGA36 _ (List.mem_of_getElem? (i := 17) rfl)
theorem gw_36_18 : Cond.selects RX10 yX10_isAhead yX10_isAhead ∈ GW := mGA36 _ (List.mem_of_getElem? (i := 18) rfl)
theorem gw_36_19 : Cond.code yX10_findings cX10_findings 2 (some .int) ∈ GW := mGA36 _ (List.mem_of_getElem? (i := 19) rfl)
theorem gw_36_20 : Cond.methodLink RX10 248 yX10_noDesk ∈ GW := mGA36 _ (List.mem_of_getElem? (i := 20) rfl)
theorem gw_36_21 : Cond.instanceMethod yX10_noDesk ∈ GW := mGA36 _ (List.mem_of_getElem? (i := 21) rfl)
theorem gw_36_22 : Cond.selects RX10 yX10_noDesk yX10_noDesk ∈ GW := mGA36 _ (List.mem_of_getElem? (i := 22) rfl)
theorem gw_36_23 : Cond.methodLink RX10 251 yX10_look ∈ GW := mGA36 _ (List.mem_of_getElem? (i := 23) rfl)
theorem gw_37_0 : Cond.instanceMethod yX10_look ∈ GW := mGA37 _ (List.mem_of_getElem? (i := 0) rfl)
theorem gw_37_1 : Cond.selects RX10 yX10_look yX10_look ∈ GW := mGA37 _ (List.mem_of_getElem? (i := 1) rfl)
theorem gw_37_2 : Cond.code yX10_suggestionsOf cX10_suggestionsOf 3 (some .int) ∈ GW := mGA37 _ (List.mem_of_getElem? (i := 2) rfl)
theorem gw_37_3 : Cond.code yX10_isThing cX10_isThing 1 (some .boolean) ∈ GW := mGA37 _ (List.mem_of_getElem? (i := 3) rfl)
theorem gw_37_4 : Cond.code yX10_of cX10_of 6 (some .int) ∈ GW := mGA37 _ (List.mem_of_getElem? (i := 4) rfl)
theorem gw_37_5 : Cond.methodLink RX10 254 yX10_isThing ∈ GW := mGA37 _ (List.mem_of_getElem? (i := 5) rfl)
theorem gw_37_6 : Cond.static yX10_isThing ∈ GW := mGA37 _ (List.mem_of_getElem? (i := 6) rfl)
theorem gw_37_7 : Cond.methodLink RX10 257 yX10_suggestionsOf ∈ GW := mGA37 _ (List.mem_of_getElem? (i := 7) rfl)
theorem gw_37_8 : Cond.instanceMethod yX10_suggestionsOf ∈ GW := mGA37 _ (List.mem_of_getElem? (i := 8) rfl)
theorem gw_37_9 : Cond.selects RX10 yX10_suggestionsOf yX10_suggestionsOf ∈ GW := mGA37 _ (List.mem_of_getElem? (i := 9) rfl)
theorem gw_37_10 : Cond.code yX10_outs cX10_outs 2 none ∈ GW := mGA37 _ (List.mem_of_getElem? (i := 10) rfl)
theorem gw_37_11 : Cond.fieldLink RX10 260 "HousestyleModel" "outSize" "I" ∈ GW := mGA37 _ (List.mem_of_getElem? (i := 11) rfl)
theorem gw_37_12 : Cond.code yX10_star cX10_star 8 none ∈ GW := mGA37 _ (List.mem_of_getElem? (i := 12) rfl)
theorem gw_37_13 : Cond.methodLink RX10 263 yX10_outs ∈ GW := mGA37 _ (List.mem_of_getElem? (i := 13) rfl)
theorem gw_37_14 : Cond.instanceMethod yX10_outs ∈ GW := mGA37 _ (List.mem_of_getElem? (i := 14) rfl)
theorem gw_37_15 : Cond.selects RX10 yX10_outs yX10_outs ∈ GW := mGA37 _ (List.mem_of_getElem? (i := 15) rfl)
theorem gw_37_16 : Cond.code yX10_isMade cX10_isMade 8 (some .boolean) ∈ GW := mGA37 _ (List.mem_of_getElem? (i := 16) rfl)
theorem gw_37_17 : Cond.methodLink RX10 267 yX10_star ∈ GW := mGA37 _ (List.mem_of_getElem? (i := 17) rfl)
theorem gw_37_18 : Cond.instanceMethod yX10_star ∈ GW := mGA37 _ (List.mem_of_getElem? (i := 18) rfl)
theorem gw_37_19 : Cond.selects RX10 yX10_star yX10_star ∈ GW := mGA37 _ (List.mem_of_getElem? (i := 19) rfl)
theorem gw_37_20 : Cond.code yX10_size cX10_size 4 (some .int) ∈ GW := mGA37 _ (List.mem_of_getElem? (i := 20) rfl)
theorem gw_37_21 : Cond.methodLink RX10 270 yX10_isMade ∈ GW := mGA37 _ (List.mem_of_getElem? (i := 21) rfl)
theorem gw_37_22 : Cond.instanceMethod yX10_isMade ∈ GW := mGA37 _ (List.mem_of_getElem? (i := 22) rfl)
theorem gw_37_23 : Cond.selects RX10 yX10_isMade yX10_isMade ∈ GW := mGA37 _ (List.mem_of_getElem? (i := 23) rfl)
theorem gw_38_0 : Cond.code yX10_sign cX10_sign 5 (some .char) ∈ GW := mGA38 _ (List.mem_of_getElem? (i := 0) rfl)
theorem gw_38_1 : Cond.code yX10_apply cX10_apply 8 (some .int) ∈ GW := mGA38 _ (List.mem_of_getElem? (i := 1) rfl)
theorem gw_38_2 : Cond.code yX10_ignore cX10_ignore 4 (some .int) ∈ GW := mGA38 _ (List.mem_of_getElem? (i := 2) rfl)
theorem gw_38_3 : Cond.code yX10_ignored cX10_ignored 2 (some .int) ∈ GW := mGA38 _ (List.mem_of_getElem? (i := 3) rfl)
theorem gw_38_4 : Cond.code yX10_heed cX10_heed 3 (some .int) ∈ GW := mGA38 _ (List.mem_of_getElem? (i := 4) rfl)
theorem gw_38_5 : Cond.code yX10_tokens cX10_tokens 4 (some .int) ∈ GW := mGA38 _ (List.mem_of_getElem? (i := 5) rfl)
theorem gw_38_6 : Cond.code yX10_paragraphs cX10_paragraphs 1 (some .int) ∈ GW := mGA38 _ (List.mem_of_getElem? (i := 6) rfl)
theorem gw_38_7 : Cond.code yX10_check cX10_check 4 (some .int) ∈ GW := mGA38 _ (List.mem_of_getElem? (i := 7) rfl)
theorem gw_38_8 : Cond.code yX10_byRule cX10_byRule 5 (some .int) ∈ GW := mGA38 _ (List.mem_of_getElem? (i := 8) rfl)
theorem gw_38_9 : Cond.code yX10_byWriter cX10_byWriter 5 (some .int) ∈ GW := mGA38 _ (List.mem_of_getElem? (i := 9) rfl)
theorem gw_38_10 : Cond.code yX10_checksum cX10_checksum 4 (some .long) ∈ GW := mGA38 _ (List.mem_of_getElem? (i := 10) rfl)
theorem gw_38_11 : Cond.constantLong RX10 273 (7) ∈ GW := mGA38 _ (List.mem_of_getElem? (i := 11) rfl)
theorem gw_38_12 : Cond.constantLong RX10 275 (31) ∈ GW := mGA38 _ (List.mem_of_getElem? (i := 12) rfl)
theorem gw_38_13 : Cond.code yX10_foundShare cX10_foundShare 4 (some .float) ∈ GW := mGA38 _ (List.mem_of_getElem? (i := 13) rfl)
theorem gw_38_14 : Cond.code yX10_meanWord cX10_meanWord 4 (some .double) ∈ GW := mGA38 _ (List.mem_of_getElem? (i := 14) rfl)
theorem gw_38_15 : Cond.code yX10_isSound cX10_isSound 1 (some .boolean) ∈ GW := mGA38 _ (List.mem_of_getElem? (i := 15) rfl)
theorem gw_38_16 : Cond.code yJx00060_init_a7421 cJx00060_init_a7421 2 none ∈ GW := mGA38 _ (List.mem_of_getElem? (i := 16) rfl)
theorem gw_38_17 : Cond.code yJ9_max_7cf53 cJ9_max_7cf53 2 (some .int) ∈ GW := mGA38 _ (List.mem_of_getElem? (i := 17) rfl)
theorem gw_38_18 : Cond.code yJ9_min_7cf53 cJ9_min_7cf53 2 (some .int) ∈ GW := mGA38 _ (List.mem_of_getElem? (i := 18) rfl)
theorem gw_38_19 : Cond.codeWith yL_type cL_type 4 (some .int) [(0, 9, 12, 13), (0, 9, 15, 15)] ∈ GW := mGA38 _ (List.mem_of_getElem? (i := 19) rfl)
theorem gw_38_20 : Cond.classLink RL 13 "java/lang/IllegalArgumentException" ∈ GW := mGA38 _ (List.mem_of_getElem? (i := 20) rfl)
theorem gw_38_21 : Cond.classLink RL 15 "java/lang/IllegalStateException" ∈ GW := mGA38 _ (List.mem_of_getElem? (i := 21) rfl)
theorem gw_38_22 : Cond.methodLink RL 7 yX9_type ∈ GW := mGA38 _ (List.mem_of_getElem? (i := 22) rfl)
theorem gw_38_23 : Cond.instanceMethod yX9_type ∈ GW := mGA38 _ (List.mem_of_getElem? (i := 23) rfl)
theorem gw_39_0 : Cond.selects RX9 yX9_type yX9_type ∈ GW := mGA39 _ (List.mem_of_getElem? (i := 0) rfl)
theorem gw_39_1 : Cond.codeWith yL_put cL_put 6 (some .int) [(0, 12, 15, 21), (0, 12, 19, 13), (0, 12, 23, 15)] ∈ GW := mGA39 _ (List.mem_of_getElem? (i := 1) rfl)
theorem gw_39_2 : Cond.classLink RL 21 "java/lang/IndexOutOfBoundsException" ∈ GW := mGA39 _ (List.mem_of_getElem? (i := 2) rfl)
theorem gw_39_3 : Cond.methodLink RL 17 yX9_put ∈ GW := mGA39 _ (List.mem_of_getElem? (i := 3) rfl)
theorem gw_39_4 : Cond.instanceMethod yX9_put ∈ GW := mGA39 _ (List.mem_of_getElem? (i := 4) rfl)
theorem gw_39_5 : Cond.selects RX9 yX9_put yX9_put ∈ GW := mGA39 _ (List.mem_of_getElem? (i := 5) rfl)
theorem gw_39_6 : Cond.codeWith yL_take cL_take 4 (some .int) [(0, 9, 12, 21)] ∈ GW := mGA39 _ (List.mem_of_getElem? (i := 6) rfl)
theorem gw_39_7 : Cond.methodLink RL 23 yX9_take ∈ GW := mGA39 _ (List.mem_of_getElem? (i := 7) rfl)
theorem gw_39_8 : Cond.instanceMethod yX9_take ∈ GW := mGA39 _ (List.mem_of_getElem? (i := 8) rfl)
theorem gw_39_9 : Cond.selects RX9 yX9_take yX9_take ∈ GW := mGA39 _ (List.mem_of_getElem? (i := 9) rfl)
theorem gw_39_10 : Cond.codeWith yL_at cL_at 4 (some .int) [(0, 9, 12, 21)] ∈ GW := mGA39 _ (List.mem_of_getElem? (i := 10) rfl)
theorem gw_39_11 : Cond.methodLink RL 27 yX9_at ∈ GW := mGA39 _ (List.mem_of_getElem? (i := 11) rfl)
theorem gw_39_12 : Cond.instanceMethod yX9_at ∈ GW := mGA39 _ (List.mem_of_getElem? (i := 12) rfl)
theorem gw_39_13 : Cond.selects RX9 yX9_at yX9_at ∈ GW := mGA39 _ (List.mem_of_getElem? (i := 13) rfl)
theorem gw_39_14 : Cond.codeWith yL_rule cL_rule 6 (some .int) [(0, 12, 15, 13), (0, 12, 19, 34), (0, 12, 23, 15)] ∈ GW := mGA39 _ (List.mem_of_getElem? (i := 14) rfl)
theorem gw_39_15 : Cond.classLink RL 34 "java/lang/UnsupportedOperationException" ∈ GW := mGA39 _ (List.mem_of_getElem? (i := 15) rfl)
theorem gw_39_16 : Cond.methodLink RL 30 yX9_rule ∈ GW := mGA39 _ (List.mem_of_getElem? (i := 16) rfl)
theorem gw_39_17 : Cond.instanceMethod yX9_rule ∈ GW := mGA39 _ (List.mem_of_getElem? (i := 17) rfl)
theorem gw_39_18 : Cond.selects RX9 yX9_rule yX9_rule ∈ GW := mGA39 _ (List.mem_of_getElem? (i := 18) rfl)
theorem gw_39_19 : Cond.codeWith yL_except cL_except 4 (some .int) [(0, 9, 12, 21), (0, 9, 15, 34), (0, 9, 18, 15)] ∈ GW := mGA39 _ (List.mem_of_getElem? (i := 19) rfl)
theorem gw_39_20 : Cond.methodLink RL 36 yX9_except ∈ GW := mGA39 _ (List.mem_of_getElem? (i := 20) rfl)
theorem gw_39_21 : Cond.instanceMethod yX9_except ∈ GW := mGA39 _ (List.mem_of_getElem? (i := 21) rfl)
theorem gw_39_22 : Cond.selects RX9 yX9_except yX9_except ∈ GW := mGA39 _ (List.mem_of_getElem? (i := 22) rfl)
theorem gw_39_23 : Cond.codeWith yL_suggest cL_suggest 4 (some .int) [(0, 9, 12, 21), (0, 9, 15, 34), (0, 9, 18, 15)] ∈ GW := mGA39 _ (List.mem_of_getElem? (i := 23) rfl)
theorem gw_40_0 : Cond.methodLink RL 40 yX9_suggest ∈ GW := mGA40 _ (List.mem_of_getElem? (i := 0) rfl)
theorem gw_40_1 : Cond.instanceMethod yX9_suggest ∈ GW := mGA40 _ (List.mem_of_getElem? (i := 1) rfl)
theorem gw_40_2 : Cond.selects RX9 yX9_suggest yX9_suggest ∈ GW := mGA40 _ (List.mem_of_getElem? (i := 2) rfl)
theorem gw_40_3 : Cond.codeWith yL_pair cL_pair 3 (some .int) [(0, 8, 11, 34), (0, 8, 14, 15)] ∈ GW := mGA40 _ (List.mem_of_getElem? (i := 3) rfl)
theorem gw_40_4 : Cond.methodLink RL 43 yX9_pair ∈ GW := mGA40 _ (List.mem_of_getElem? (i := 4) rfl)
theorem gw_40_5 : Cond.instanceMethod yX9_pair ∈ GW := mGA40 _ (List.mem_of_getElem? (i := 5) rfl)
theorem gw_40_6 : Cond.selects RX9 yX9_pair yX9_pair ∈ GW := mGA40 _ (List.mem_of_getElem? (i := 6) rfl)
theorem gw_40_7 : Cond.codeWith yL_use cL_use 6 (some .int) [(0, 19, 22, 21), (0, 19, 26, 13)] ∈ GW := mGA40 _ (List.mem_of_getElem? (i := 7) rfl)
theorem gw_40_8 : Cond.methodLink RL 47 yX9_use ∈ GW := mGA40 _ (List.mem_of_getElem? (i := 8) rfl)
theorem gw_40_9 : Cond.instanceMethod yX9_use ∈ GW := mGA40 _ (List.mem_of_getElem? (i := 9) rfl)
theorem gw_40_10 : Cond.selects RX9 yX9_use yX9_use ∈ GW := mGA40 _ (List.mem_of_getElem? (i := 10) rfl)
theorem gw_40_11 : Cond.codeWith yL_rank cL_rank 6 (some .int) [(0, 12, 15, 21), (0, 12, 19, 13)] ∈ GW := mGA40 _ (List.mem_of_getElem? (i := 11) rfl)
theorem gw_40_12 : Cond.methodLink RL 51 yX9_rank ∈ GW := mGA40 _ (List.mem_of_getElem? (i := 12) rfl)
theorem gw_40_13 : Cond.instanceMethod yX9_rank ∈ GW := mGA40 _ (List.mem_of_getElem? (i := 13) rfl)
theorem gw_40_14 : Cond.selects RX9 yX9_rank yX9_rank ∈ GW := mGA40 _ (List.mem_of_getElem? (i := 14) rfl)
theorem gw_40_15 : Cond.codeWith yL_limit cL_limit 5 (some .int) [(0, 10, 13, 13)] ∈ GW := mGA40 _ (List.mem_of_getElem? (i := 15) rfl)
theorem gw_40_16 : Cond.methodLink RL 55 yX9_limit ∈ GW := mGA40 _ (List.mem_of_getElem? (i := 16) rfl)
theorem gw_40_17 : Cond.instanceMethod yX9_limit ∈ GW := mGA40 _ (List.mem_of_getElem? (i := 17) rfl)
theorem gw_40_18 : Cond.selects RX9 yX9_limit yX9_limit ∈ GW := mGA40 _ (List.mem_of_getElem? (i := 18) rfl)
theorem gw_40_19 : Cond.codeWith yL_findings cL_findings 4 (some .int) [(0, 9, 12, 13)] ∈ GW := mGA40 _ (List.mem_of_getElem? (i := 19) rfl)
theorem gw_40_20 : Cond.methodLink RL 59 yX9_findings ∈ GW := mGA40 _ (List.mem_of_getElem? (i := 20) rfl)
theorem gw_40_21 : Cond.instanceMethod yX9_findings ∈ GW := mGA40 _ (List.mem_of_getElem? (i := 21) rfl)
theorem gw_40_22 : Cond.selects RX9 yX9_findings yX9_findings ∈ GW := mGA40 _ (List.mem_of_getElem? (i := 22) rfl)
theorem gw_40_23 : Cond.codeWith yL_of cL_of 6 (some .int) [(0, 12, 15, 13), (0, 12, 19, 66)] ∈ GW := mGA40 _ (List.mem_of_getElem? (i := 23) rfl)
theorem gw_41_0 : Cond.classLink RL 66 "java/util/NoSuchElementException" ∈ GW := mGA41 _ (List.mem_of_getElem? (i := 0) rfl)
theorem gw_41_1 : Cond.methodLink RL 62 yX9_of ∈ GW := mGA41 _ (List.mem_of_getElem? (i := 1) rfl)
theorem gw_41_2 : Cond.instanceMethod yX9_of ∈ GW := mGA41 _ (List.mem_of_getElem? (i := 2) rfl)
theorem gw_41_3 : Cond.selects RX9 yX9_of yX9_of ∈ GW := mGA41 _ (List.mem_of_getElem? (i := 3) rfl)
theorem gw_41_4 : Cond.codeWith yL_size cL_size 6 (some .int) [(0, 12, 15, 13), (0, 12, 19, 66)] ∈ GW := mGA41 _ (List.mem_of_getElem? (i := 4) rfl)
theorem gw_41_5 : Cond.methodLink RL 68 yX9_size ∈ GW := mGA41 _ (List.mem_of_getElem? (i := 5) rfl)
theorem gw_41_6 : Cond.instanceMethod yX9_size ∈ GW := mGA41 _ (List.mem_of_getElem? (i := 6) rfl)
theorem gw_41_7 : Cond.selects RX9 yX9_size yX9_size ∈ GW := mGA41 _ (List.mem_of_getElem? (i := 7) rfl)
theorem gw_41_8 : Cond.codeWith yL_sign cL_sign 7 (some .int) [(0, 14, 17, 13), (0, 14, 21, 66)] ∈ GW := mGA41 _ (List.mem_of_getElem? (i := 8) rfl)
theorem gw_41_9 : Cond.methodLink RL 71 yX9_sign ∈ GW := mGA41 _ (List.mem_of_getElem? (i := 9) rfl)
theorem gw_41_10 : Cond.instanceMethod yX9_sign ∈ GW := mGA41 _ (List.mem_of_getElem? (i := 10) rfl)
theorem gw_41_11 : Cond.selects RX9 yX9_sign yX9_sign ∈ GW := mGA41 _ (List.mem_of_getElem? (i := 11) rfl)
theorem gw_41_12 : Cond.codeWith yL_apply cL_apply 7 (some .int) [(0, 14, 17, 13), (0, 14, 21, 66), (0, 14, 25, 15)] ∈ GW := mGA41 _ (List.mem_of_getElem? (i := 12) rfl)
theorem gw_41_13 : Cond.methodLink RL 75 yX9_apply ∈ GW := mGA41 _ (List.mem_of_getElem? (i := 13) rfl)
theorem gw_41_14 : Cond.instanceMethod yX9_apply ∈ GW := mGA41 _ (List.mem_of_getElem? (i := 14) rfl)
theorem gw_41_15 : Cond.selects RX9 yX9_apply yX9_apply ∈ GW := mGA41 _ (List.mem_of_getElem? (i := 15) rfl)
theorem gw_41_16 : Cond.codeWith yL_ignore cL_ignore 5 (some .int) [(0, 10, 13, 13), (0, 10, 17, 66), (0, 10, 21, 15)] ∈ GW := mGA41 _ (List.mem_of_getElem? (i := 16) rfl)
theorem gw_41_17 : Cond.methodLink RL 79 yX9_ignore ∈ GW := mGA41 _ (List.mem_of_getElem? (i := 17) rfl)
theorem gw_41_18 : Cond.instanceMethod yX9_ignore ∈ GW := mGA41 _ (List.mem_of_getElem? (i := 18) rfl)
theorem gw_41_19 : Cond.selects RX9 yX9_ignore yX9_ignore ∈ GW := mGA41 _ (List.mem_of_getElem? (i := 19) rfl)
theorem gw_41_20 : Cond.codeWith yL_ignored cL_ignored 4 (some .int) [(0, 9, 12, 13)] ∈ GW := mGA41 _ (List.mem_of_getElem? (i := 20) rfl)
theorem gw_41_21 : Cond.methodLink RL 82 yX9_ignored ∈ GW := mGA41 _ (List.mem_of_getElem? (i := 21) rfl)
theorem gw_41_22 : Cond.instanceMethod yX9_ignored ∈ GW := mGA41 _ (List.mem_of_getElem? (i := 22) rfl)
theorem gw_41_23 : Cond.selects RX9 yX9_ignored yX9_ignored ∈ GW := mGA41 _ (List.mem_of_getElem? (i := 23) rfl)
theorem gw_42_0 : Cond.codeWith yL_heed cL_heed 4 (some .int) [(0, 9, 12, 13)] ∈ GW := mGA42 _ (List.mem_of_getElem? (i := 0) rfl)
theorem gw_42_1 : Cond.methodLink RL 85 yX9_heed ∈ GW := mGA42 _ (List.mem_of_getElem? (i := 1) rfl)
theorem gw_42_2 : Cond.instanceMethod yX9_heed ∈ GW := mGA42 _ (List.mem_of_getElem? (i := 2) rfl)
theorem gw_42_3 : Cond.selects RX9 yX9_heed yX9_heed ∈ GW := mGA42 _ (List.mem_of_getElem? (i := 3) rfl)
theorem gw_42_4 : Cond.codeWith yL_check cL_check 4 (some .int) [(0, 9, 12, 13)] ∈ GW := mGA42 _ (List.mem_of_getElem? (i := 4) rfl)
theorem gw_42_5 : Cond.methodLink RL 88 yX9_check ∈ GW := mGA42 _ (List.mem_of_getElem? (i := 5) rfl)
theorem gw_42_6 : Cond.instanceMethod yX9_check ∈ GW := mGA42 _ (List.mem_of_getElem? (i := 6) rfl)
theorem gw_42_7 : Cond.selects RX9 yX9_check yX9_check ∈ GW := mGA42 _ (List.mem_of_getElem? (i := 7) rfl)
theorem gw_42_8 : Cond.codeWith yL_byRule cL_byRule 5 (some .int) [(0, 10, 13, 13)] ∈ GW := mGA42 _ (List.mem_of_getElem? (i := 8) rfl)
theorem gw_42_9 : Cond.methodLink RL 91 yX9_byRule ∈ GW := mGA42 _ (List.mem_of_getElem? (i := 9) rfl)
theorem gw_42_10 : Cond.instanceMethod yX9_byRule ∈ GW := mGA42 _ (List.mem_of_getElem? (i := 10) rfl)
theorem gw_42_11 : Cond.selects RX9 yX9_byRule yX9_byRule ∈ GW := mGA42 _ (List.mem_of_getElem? (i := 11) rfl)
theorem gw_42_12 : Cond.codeWith yL_byWriter cL_byWriter 5 (some .int) [(0, 10, 13, 13)] ∈ GW := mGA42 _ (List.mem_of_getElem? (i := 12) rfl)
theorem gw_42_13 : Cond.methodLink RL 94 yX9_byWriter ∈ GW := mGA42 _ (List.mem_of_getElem? (i := 13) rfl)
theorem gw_42_14 : Cond.instanceMethod yX9_byWriter ∈ GW := mGA42 _ (List.mem_of_getElem? (i := 14) rfl)
theorem gw_42_15 : Cond.selects RX9 yX9_byWriter yX9_byWriter ∈ GW := mGA42 _ (List.mem_of_getElem? (i := 15) rfl)
theorem gw_42_16 : Cond.codeWith yL_foundShare cL_foundShare 4 (some .int) [(0, 9, 12, 13), (0, 9, 15, 101)] ∈ GW := mGA42 _ (List.mem_of_getElem? (i := 16) rfl)
theorem gw_42_17 : Cond.classLink RL 101 "java/lang/ArithmeticException" ∈ GW := mGA42 _ (List.mem_of_getElem? (i := 17) rfl)
theorem gw_42_18 : Cond.methodLink RL 97 yX9_foundShare ∈ GW := mGA42 _ (List.mem_of_getElem? (i := 18) rfl)
theorem gw_42_19 : Cond.instanceMethod yX9_foundShare ∈ GW := mGA42 _ (List.mem_of_getElem? (i := 19) rfl)
theorem gw_42_20 : Cond.selects RX9 yX9_foundShare yX9_foundShare ∈ GW := mGA42 _ (List.mem_of_getElem? (i := 20) rfl)
theorem gw_42_21 : Cond.codeWith yL_meanWord cL_meanWord 3 (some .int) [(0, 7, 10, 101)] ∈ GW := mGA42 _ (List.mem_of_getElem? (i := 21) rfl)
theorem gw_42_22 : Cond.methodLink RL 103 yX9_meanWord ∈ GW := mGA42 _ (List.mem_of_getElem? (i := 22) rfl)
theorem gw_42_23 : Cond.instanceMethod yX9_meanWord ∈ GW := mGA42 _ (List.mem_of_getElem? (i := 23) rfl)
theorem gw_43_0 : Cond.selects RX9 yX9_meanWord yX9_meanWord ∈ GW := mGA43 _ (List.mem_of_getElem? (i := 0) rfl)
theorem gw_43_1 : Cond.classLink RL 8 RX9 ∈ GW := mGA43 _ (List.mem_of_getElem? (i := 1) rfl)
theorem gw_43_2 : Cond.instantiable RX9 9 ∈ GW := mGA43 _ (List.mem_of_getElem? (i := 2) rfl)
theorem gw_43_3 : Cond.classLink RL 108 RX10 ∈ GW := mGA43 _ (List.mem_of_getElem? (i := 3) rfl)
theorem gw_43_4 : Cond.instantiable RX10 46 ∈ GW := mGA43 _ (List.mem_of_getElem? (i := 4) rfl)
theorem gw_43_5 : Cond.arrayClass .long ∈ GW := mGA43 _ (List.mem_of_getElem? (i := 5) rfl)
theorem gw_43_6 : Cond.arrayClass .double ∈ GW := mGA43 _ (List.mem_of_getElem? (i := 6) rfl)
theorem gw_43_7 : Cond.methodLink RL 107 yX9_init ∈ GW := mGA43 _ (List.mem_of_getElem? (i := 7) rfl)
theorem gw_43_8 : Cond.instanceMethod yX9_init ∈ GW := mGA43 _ (List.mem_of_getElem? (i := 8) rfl)
theorem gw_43_9 : Cond.methodLink RL 110 yX10_init ∈ GW := mGA43 _ (List.mem_of_getElem? (i := 9) rfl)
theorem gw_43_10 : Cond.instanceMethod yX10_init ∈ GW := mGA43 _ (List.mem_of_getElem? (i := 10) rfl)
theorem gw_43_11 : Cond.methodLink RL 111 yL_type ∈ GW := mGA43 _ (List.mem_of_getElem? (i := 11) rfl)
theorem gw_43_12 : Cond.static yL_type ∈ GW := mGA43 _ (List.mem_of_getElem? (i := 12) rfl)
theorem gw_43_13 : Cond.initialized RL ∈ GW := mGA43 _ (List.mem_of_getElem? (i := 13) rfl)
theorem gw_43_14 : Cond.methodLink RL 116 yX10_type ∈ GW := mGA43 _ (List.mem_of_getElem? (i := 14) rfl)
theorem gw_43_15 : Cond.instanceMethod yX10_type ∈ GW := mGA43 _ (List.mem_of_getElem? (i := 15) rfl)
theorem gw_43_16 : Cond.selects RX10 yX10_type yX10_type ∈ GW := mGA43 _ (List.mem_of_getElem? (i := 16) rfl)
theorem gw_43_17 : Cond.methodLink RL 117 yX10_thrown ∈ GW := mGA43 _ (List.mem_of_getElem? (i := 17) rfl)
theorem gw_43_18 : Cond.instanceMethod yX10_thrown ∈ GW := mGA43 _ (List.mem_of_getElem? (i := 18) rfl)
theorem gw_43_19 : Cond.selects RX10 yX10_thrown yX10_thrown ∈ GW := mGA43 _ (List.mem_of_getElem? (i := 19) rfl)
theorem gw_43_20 : Cond.methodLink RL 120 yX9_wipe ∈ GW := mGA43 _ (List.mem_of_getElem? (i := 20) rfl)
theorem gw_43_21 : Cond.instanceMethod yX9_wipe ∈ GW := mGA43 _ (List.mem_of_getElem? (i := 21) rfl)
theorem gw_43_22 : Cond.selects RX9 yX9_wipe yX9_wipe ∈ GW := mGA43 _ (List.mem_of_getElem? (i := 22) rfl)
theorem gw_43_23 : Cond.methodLink RL 123 yX10_wipe ∈ GW := mGA43 _ (List.mem_of_getElem? (i := 23) rfl)
theorem gw_44_0 : Cond.instanceMethod yX10_wipe ∈ GW := mGA44 _ (List.mem_of_getElem? (i := 0) rfl)
theorem gw_44_1 : Cond.selects RX10 yX10_wipe yX10_wipe ∈ GW := mGA44 _ (List.mem_of_getElem? (i := 1) rfl)
theorem gw_44_2 : Cond.methodLink RL 124 yL_put ∈ GW := mGA44 _ (List.mem_of_getElem? (i := 2) rfl)
theorem gw_44_3 : Cond.static yL_put ∈ GW := mGA44 _ (List.mem_of_getElem? (i := 3) rfl)
theorem gw_44_4 : Cond.methodLink RL 127 yX10_put ∈ GW := mGA44 _ (List.mem_of_getElem? (i := 4) rfl)
theorem gw_44_5 : Cond.instanceMethod yX10_put ∈ GW := mGA44 _ (List.mem_of_getElem? (i := 5) rfl)
theorem gw_44_6 : Cond.selects RX10 yX10_put yX10_put ∈ GW := mGA44 _ (List.mem_of_getElem? (i := 6) rfl)
theorem gw_44_7 : Cond.methodLink RL 128 yL_take ∈ GW := mGA44 _ (List.mem_of_getElem? (i := 7) rfl)
theorem gw_44_8 : Cond.static yL_take ∈ GW := mGA44 _ (List.mem_of_getElem? (i := 8) rfl)
theorem gw_44_9 : Cond.methodLink RL 131 yX10_take ∈ GW := mGA44 _ (List.mem_of_getElem? (i := 9) rfl)
theorem gw_44_10 : Cond.instanceMethod yX10_take ∈ GW := mGA44 _ (List.mem_of_getElem? (i := 10) rfl)
theorem gw_44_11 : Cond.selects RX10 yX10_take yX10_take ∈ GW := mGA44 _ (List.mem_of_getElem? (i := 11) rfl)
theorem gw_44_12 : Cond.methodLink RL 132 yL_at ∈ GW := mGA44 _ (List.mem_of_getElem? (i := 12) rfl)
theorem gw_44_13 : Cond.static yL_at ∈ GW := mGA44 _ (List.mem_of_getElem? (i := 13) rfl)
theorem gw_44_14 : Cond.methodLink RL 134 yX10_at ∈ GW := mGA44 _ (List.mem_of_getElem? (i := 14) rfl)
theorem gw_44_15 : Cond.instanceMethod yX10_at ∈ GW := mGA44 _ (List.mem_of_getElem? (i := 15) rfl)
theorem gw_44_16 : Cond.selects RX10 yX10_at yX10_at ∈ GW := mGA44 _ (List.mem_of_getElem? (i := 16) rfl)
theorem gw_44_17 : Cond.methodLink RL 135 yX9_length ∈ GW := mGA44 _ (List.mem_of_getElem? (i := 17) rfl)
theorem gw_44_18 : Cond.instanceMethod yX9_length ∈ GW := mGA44 _ (List.mem_of_getElem? (i := 18) rfl)
theorem gw_44_19 : Cond.selects RX9 yX9_length yX9_length ∈ GW := mGA44 _ (List.mem_of_getElem? (i := 19) rfl)
theorem gw_44_20 : Cond.methodLink RL 138 yX10_length ∈ GW := mGA44 _ (List.mem_of_getElem? (i := 20) rfl)
theorem gw_44_21 : Cond.instanceMethod yX10_length ∈ GW := mGA44 _ (List.mem_of_getElem? (i := 21) rfl)
theorem gw_44_22 : Cond.selects RX10 yX10_length yX10_length ∈ GW := mGA44 _ (List.mem_of_getElem? (i := 22) rfl)
theorem gw_44_23 : Cond.methodLink RL 139 yL_rule ∈ GW := mGA44 _ (List.mem_of_getElem? (i := 23) rfl)
theorem gw_45_0 : Cond.static yL_rule ∈ GW := mGA45 _ (List.mem_of_getElem? (i := 0) rfl)
theorem gw_45_1 : Cond.methodLink RL 142 yX10_rule ∈ GW := mGA45 _ (List.mem_of_getElem? (i := 1) rfl)
theorem gw_45_2 : Cond.instanceMethod yX10_rule ∈ GW := mGA45 _ (List.mem_of_getElem? (i := 2) rfl)
theorem gw_45_3 : Cond.selects RX10 yX10_rule yX10_rule ∈ GW := mGA45 _ (List.mem_of_getElem? (i := 3) rfl)
theorem gw_45_4 : Cond.methodLink RL 143 yL_except ∈ GW := mGA45 _ (List.mem_of_getElem? (i := 4) rfl)
theorem gw_45_5 : Cond.static yL_except ∈ GW := mGA45 _ (List.mem_of_getElem? (i := 5) rfl)
theorem gw_45_6 : Cond.methodLink RL 145 yX10_except ∈ GW := mGA45 _ (List.mem_of_getElem? (i := 6) rfl)
theorem gw_45_7 : Cond.instanceMethod yX10_except ∈ GW := mGA45 _ (List.mem_of_getElem? (i := 7) rfl)
theorem gw_45_8 : Cond.selects RX10 yX10_except yX10_except ∈ GW := mGA45 _ (List.mem_of_getElem? (i := 8) rfl)
theorem gw_45_9 : Cond.methodLink RL 146 yL_suggest ∈ GW := mGA45 _ (List.mem_of_getElem? (i := 9) rfl)
theorem gw_45_10 : Cond.static yL_suggest ∈ GW := mGA45 _ (List.mem_of_getElem? (i := 10) rfl)
theorem gw_45_11 : Cond.methodLink RL 148 yX10_suggest ∈ GW := mGA45 _ (List.mem_of_getElem? (i := 11) rfl)
theorem gw_45_12 : Cond.instanceMethod yX10_suggest ∈ GW := mGA45 _ (List.mem_of_getElem? (i := 12) rfl)
theorem gw_45_13 : Cond.selects RX10 yX10_suggest yX10_suggest ∈ GW := mGA45 _ (List.mem_of_getElem? (i := 13) rfl)
theorem gw_45_14 : Cond.methodLink RL 149 yL_pair ∈ GW := mGA45 _ (List.mem_of_getElem? (i := 14) rfl)
theorem gw_45_15 : Cond.static yL_pair ∈ GW := mGA45 _ (List.mem_of_getElem? (i := 15) rfl)
theorem gw_45_16 : Cond.methodLink RL 152 yX10_pair ∈ GW := mGA45 _ (List.mem_of_getElem? (i := 16) rfl)
theorem gw_45_17 : Cond.instanceMethod yX10_pair ∈ GW := mGA45 _ (List.mem_of_getElem? (i := 17) rfl)
theorem gw_45_18 : Cond.selects RX10 yX10_pair yX10_pair ∈ GW := mGA45 _ (List.mem_of_getElem? (i := 18) rfl)
theorem gw_45_19 : Cond.methodLink RL 153 yL_use ∈ GW := mGA45 _ (List.mem_of_getElem? (i := 19) rfl)
theorem gw_45_20 : Cond.static yL_use ∈ GW := mGA45 _ (List.mem_of_getElem? (i := 20) rfl)
theorem gw_45_21 : Cond.methodLink RL 156 yX10_use ∈ GW := mGA45 _ (List.mem_of_getElem? (i := 21) rfl)
theorem gw_45_22 : Cond.instanceMethod yX10_use ∈ GW := mGA45 _ (List.mem_of_getElem? (i := 22) rfl)
theorem gw_45_23 : Cond.selects RX10 yX10_use yX10_use ∈ GW := mGA45 _ (List.mem_of_getElem? (i := 23) rfl)
theorem gw_46_0 : Cond.methodLink RL 157 yL_rank ∈ GW := mGA46 _ (List.mem_of_getElem? (i := 0) rfl)
theorem gw_46_1 : Cond.static yL_rank ∈ GW := mGA46 _ (List.mem_of_getElem? (i := 1) rfl)
theorem gw_46_2 : Cond.methodLink RL 160 yX10_rank ∈ GW := mGA46 _ (List.mem_of_getElem? (i := 2) rfl)
theorem gw_46_3 : Cond.instanceMethod yX10_rank ∈ GW := mGA46 _ (List.mem_of_getElem? (i := 3) rfl)
theorem gw_46_4 : Cond.selects RX10 yX10_rank yX10_rank ∈ GW := mGA46 _ (List.mem_of_getElem? (i := 4) rfl)
theorem gw_46_5 : Cond.methodLink RL 161 yL_limit ∈ GW := mGA46 _ (List.mem_of_getElem? (i := 5) rfl)
theorem gw_46_6 : Cond.static yL_limit ∈ GW := mGA46 _ (List.mem_of_getElem? (i := 6) rfl)
theorem gw_46_7 : Cond.methodLink RL 164 yX10_limit ∈ GW := mGA46 _ (List.mem_of_getElem? (i := 7) rfl)
theorem gw_46_8 : Cond.instanceMethod yX10_limit ∈ GW := mGA46 _ (List.mem_of_getElem? (i := 8) rfl)
theorem gw_46_9 : Cond.selects RX10 yX10_limit yX10_limit ∈ GW := mGA46 _ (List.mem_of_getElem? (i := 9) rfl)
theorem gw_46_10 : Cond.methodLink RL 165 yL_findings ∈ GW := mGA46 _ (List.mem_of_getElem? (i := 10) rfl)
theorem gw_46_11 : Cond.static yL_findings ∈ GW := mGA46 _ (List.mem_of_getElem? (i := 11) rfl)
theorem gw_46_12 : Cond.methodLink RL 167 yX10_findings ∈ GW := mGA46 _ (List.mem_of_getElem? (i := 12) rfl)
theorem gw_46_13 : Cond.instanceMethod yX10_findings ∈ GW := mGA46 _ (List.mem_of_getElem? (i := 13) rfl)
theorem gw_46_14 : Cond.selects RX10 yX10_findings yX10_findings ∈ GW := mGA46 _ (List.mem_of_getElem? (i := 14) rfl)
theorem gw_46_15 : Cond.methodLink RL 168 yL_of ∈ GW := mGA46 _ (List.mem_of_getElem? (i := 15) rfl)
theorem gw_46_16 : Cond.static yL_of ∈ GW := mGA46 _ (List.mem_of_getElem? (i := 16) rfl)
theorem gw_46_17 : Cond.methodLink RL 171 yX10_of ∈ GW := mGA46 _ (List.mem_of_getElem? (i := 17) rfl)
theorem gw_46_18 : Cond.instanceMethod yX10_of ∈ GW := mGA46 _ (List.mem_of_getElem? (i := 18) rfl)
theorem gw_46_19 : Cond.selects RX10 yX10_of yX10_of ∈ GW := mGA46 _ (List.mem_of_getElem? (i := 19) rfl)
theorem gw_46_20 : Cond.methodLink RL 172 yL_size ∈ GW := mGA46 _ (List.mem_of_getElem? (i := 20) rfl)
theorem gw_46_21 : Cond.static yL_size ∈ GW := mGA46 _ (List.mem_of_getElem? (i := 21) rfl)
theorem gw_46_22 : Cond.methodLink RL 174 yX10_size ∈ GW := mGA46 _ (List.mem_of_getElem? (i := 22) rfl)
theorem gw_46_23 : Cond.instanceMethod yX10_size ∈ GW := mGA46 _ (List.mem_of_getElem? (i := 23) rfl)
theorem gw_47_0 : Cond.selects RX10 yX10_size yX10_size ∈ GW := mGA47 _ (List.mem_of_getElem? (i := 0) rfl)
theorem gw_47_1 : Cond.methodLink RL 175 yL_sign ∈ GW := mGA47 _ (List.mem_of_getElem? (i := 1) rfl)
theorem gw_47_2 : Cond.static yL_sign ∈ GW := mGA47 _ (List.mem_of_getElem? (i := 2) rfl)
theorem gw_47_3 : Cond.methodLink RL 178 yX10_sign ∈ GW := mGA47 _ (List.mem_of_getElem? (i := 3) rfl)
theorem gw_47_4 : Cond.instanceMethod yX10_sign ∈ GW := mGA47 _ (List.mem_of_getElem? (i := 4) rfl)
theorem gw_47_5 : Cond.selects RX10 yX10_sign yX10_sign ∈ GW := mGA47 _ (List.mem_of_getElem? (i := 5) rfl)
theorem gw_47_6 : Cond.methodLink RL 179 yL_apply ∈ GW := mGA47 _ (List.mem_of_getElem? (i := 6) rfl)
theorem gw_47_7 : Cond.static yL_apply ∈ GW := mGA47 _ (List.mem_of_getElem? (i := 7) rfl)
theorem gw_47_8 : Cond.methodLink RL 181 yX10_apply ∈ GW := mGA47 _ (List.mem_of_getElem? (i := 8) rfl)
theorem gw_47_9 : Cond.instanceMethod yX10_apply ∈ GW := mGA47 _ (List.mem_of_getElem? (i := 9) rfl)
theorem gw_47_10 : Cond.selects RX10 yX10_apply yX10_apply ∈ GW := mGA47 _ (List.mem_of_getElem? (i := 10) rfl)
theorem gw_47_11 : Cond.methodLink RL 182 yL_ignore ∈ GW := mGA47 _ (List.mem_of_getElem? (i := 11) rfl)
theorem gw_47_12 : Cond.static yL_ignore ∈ GW := mGA47 _ (List.mem_of_getElem? (i := 12) rfl)
theorem gw_47_13 : Cond.methodLink RL 184 yX10_ignore ∈ GW := mGA47 _ (List.mem_of_getElem? (i := 13) rfl)
theorem gw_47_14 : Cond.instanceMethod yX10_ignore ∈ GW := mGA47 _ (List.mem_of_getElem? (i := 14) rfl)
theorem gw_47_15 : Cond.selects RX10 yX10_ignore yX10_ignore ∈ GW := mGA47 _ (List.mem_of_getElem? (i := 15) rfl)
theorem gw_47_16 : Cond.methodLink RL 185 yL_ignored ∈ GW := mGA47 _ (List.mem_of_getElem? (i := 16) rfl)
theorem gw_47_17 : Cond.static yL_ignored ∈ GW := mGA47 _ (List.mem_of_getElem? (i := 17) rfl)
theorem gw_47_18 : Cond.methodLink RL 187 yX10_ignored ∈ GW := mGA47 _ (List.mem_of_getElem? (i := 18) rfl)
theorem gw_47_19 : Cond.instanceMethod yX10_ignored ∈ GW := mGA47 _ (List.mem_of_getElem? (i := 19) rfl)
theorem gw_47_20 : Cond.selects RX10 yX10_ignored yX10_ignored ∈ GW := mGA47 _ (List.mem_of_getElem? (i := 20) rfl)
theorem gw_47_21 : Cond.methodLink RL 188 yL_heed ∈ GW := mGA47 _ (List.mem_of_getElem? (i := 21) rfl)
theorem gw_47_22 : Cond.static yL_heed ∈ GW := mGA47 _ (List.mem_of_getElem? (i := 22) rfl)
theorem gw_47_23 : Cond.methodLink RL 190 yX10_heed ∈ GW := mGA47 _ (List.mem_of_getElem? (i := 23) rfl)
theorem gw_48_0 : Cond.instanceMethod yX10_heed ∈ GW := mGA48 _ (List.mem_of_getElem? (i := 0) rfl)
theorem gw_48_1 : Cond.selects RX10 yX10_heed yX10_heed ∈ GW := mGA48 _ (List.mem_of_getElem? (i := 1) rfl)
theorem gw_48_2 : Cond.methodLink RL 191 yX9_tokens ∈ GW := mGA48 _ (List.mem_of_getElem? (i := 2) rfl)
theorem gw_48_3 : Cond.instanceMethod yX9_tokens ∈ GW := mGA48 _ (List.mem_of_getElem? (i := 3) rfl)
theorem gw_48_4 : Cond.selects RX9 yX9_tokens yX9_tokens ∈ GW := mGA48 _ (List.mem_of_getElem? (i := 4) rfl)
theorem gw_48_5 : Cond.methodLink RL 195 yX10_tokens ∈ GW := mGA48 _ (List.mem_of_getElem? (i := 5) rfl)
theorem gw_48_6 : Cond.instanceMethod yX10_tokens ∈ GW := mGA48 _ (List.mem_of_getElem? (i := 6) rfl)
theorem gw_48_7 : Cond.selects RX10 yX10_tokens yX10_tokens ∈ GW := mGA48 _ (List.mem_of_getElem? (i := 7) rfl)
theorem gw_48_8 : Cond.methodLink RL 196 yX9_paragraphs ∈ GW := mGA48 _ (List.mem_of_getElem? (i := 8) rfl)
theorem gw_48_9 : Cond.instanceMethod yX9_paragraphs ∈ GW := mGA48 _ (List.mem_of_getElem? (i := 9) rfl)
theorem gw_48_10 : Cond.selects RX9 yX9_paragraphs yX9_paragraphs ∈ GW := mGA48 _ (List.mem_of_getElem? (i := 10) rfl)
theorem gw_48_11 : Cond.methodLink RL 199 yX10_paragraphs ∈ GW := mGA48 _ (List.mem_of_getElem? (i := 11) rfl)
theorem gw_48_12 : Cond.instanceMethod yX10_paragraphs ∈ GW := mGA48 _ (List.mem_of_getElem? (i := 12) rfl)
theorem gw_48_13 : Cond.selects RX10 yX10_paragraphs yX10_paragraphs ∈ GW := mGA48 _ (List.mem_of_getElem? (i := 13) rfl)
theorem gw_48_14 : Cond.methodLink RL 200 yL_check ∈ GW := mGA48 _ (List.mem_of_getElem? (i := 14) rfl)
theorem gw_48_15 : Cond.static yL_check ∈ GW := mGA48 _ (List.mem_of_getElem? (i := 15) rfl)
theorem gw_48_16 : Cond.methodLink RL 202 yX10_check ∈ GW := mGA48 _ (List.mem_of_getElem? (i := 16) rfl)
theorem gw_48_17 : Cond.instanceMethod yX10_check ∈ GW := mGA48 _ (List.mem_of_getElem? (i := 17) rfl)
theorem gw_48_18 : Cond.selects RX10 yX10_check yX10_check ∈ GW := mGA48 _ (List.mem_of_getElem? (i := 18) rfl)
theorem gw_48_19 : Cond.methodLink RL 203 yL_byRule ∈ GW := mGA48 _ (List.mem_of_getElem? (i := 19) rfl)
theorem gw_48_20 : Cond.static yL_byRule ∈ GW := mGA48 _ (List.mem_of_getElem? (i := 20) rfl)
theorem gw_48_21 : Cond.methodLink RL 205 yX10_byRule ∈ GW := mGA48 _ (List.mem_of_getElem? (i := 21) rfl)
theorem gw_48_22 : Cond.instanceMethod yX10_byRule ∈ GW := mGA48 _ (List.mem_of_getElem? (i := 22) rfl)
theorem gw_48_23 : Cond.selects RX10 yX10_byRule yX10_byRule ∈ GW := mGA48 _ (List.mem_of_getElem? (i := 23) rfl)
theorem gw_49_0 : Cond.methodLink RL 206 yL_byWriter ∈ GW := mGA49 _ (List.mem_of_getElem? (i := 0) rfl)
theorem gw_49_1 : Cond.static yL_byWriter ∈ GW := mGA49 _ (List.mem_of_getElem? (i := 1) rfl)
theorem gw_49_2 : Cond.methodLink RL 208 yX10_byWriter ∈ GW := mGA49 _ (List.mem_of_getElem? (i := 2) rfl)
theorem gw_49_3 : Cond.instanceMethod yX10_byWriter ∈ GW := mGA49 _ (List.mem_of_getElem? (i := 3) rfl)
theorem gw_49_4 : Cond.selects RX10 yX10_byWriter yX10_byWriter ∈ GW := mGA49 _ (List.mem_of_getElem? (i := 4) rfl)
theorem gw_49_5 : Cond.methodLink RL 209 yX9_checksum ∈ GW := mGA49 _ (List.mem_of_getElem? (i := 5) rfl)
theorem gw_49_6 : Cond.instanceMethod yX9_checksum ∈ GW := mGA49 _ (List.mem_of_getElem? (i := 6) rfl)
theorem gw_49_7 : Cond.selects RX9 yX9_checksum yX9_checksum ∈ GW := mGA49 _ (List.mem_of_getElem? (i := 7) rfl)
theorem gw_49_8 : Cond.methodLink RL 213 yX10_checksum ∈ GW := mGA49 _ (List.mem_of_getElem? (i := 8) rfl)
theorem gw_49_9 : Cond.instanceMethod yX10_checksum ∈ GW := mGA49 _ (List.mem_of_getElem? (i := 9) rfl)
theorem gw_49_10 : Cond.selects RX10 yX10_checksum yX10_checksum ∈ GW := mGA49 _ (List.mem_of_getElem? (i := 10) rfl)
theorem gw_49_11 : Cond.methodLink RL 214 yL_foundShare ∈ GW := mGA49 _ (List.mem_of_getElem? (i := 11) rfl)
theorem gw_49_12 : Cond.static yL_foundShare ∈ GW := mGA49 _ (List.mem_of_getElem? (i := 12) rfl)
theorem gw_49_13 : Cond.methodLink RL 217 yX10_foundShare ∈ GW := mGA49 _ (List.mem_of_getElem? (i := 13) rfl)
theorem gw_49_14 : Cond.instanceMethod yX10_foundShare ∈ GW := mGA49 _ (List.mem_of_getElem? (i := 14) rfl)
theorem gw_49_15 : Cond.selects RX10 yX10_foundShare yX10_foundShare ∈ GW := mGA49 _ (List.mem_of_getElem? (i := 15) rfl)
theorem gw_49_16 : Cond.methodLink RL 218 yL_meanWord ∈ GW := mGA49 _ (List.mem_of_getElem? (i := 16) rfl)
theorem gw_49_17 : Cond.static yL_meanWord ∈ GW := mGA49 _ (List.mem_of_getElem? (i := 17) rfl)
theorem gw_49_18 : Cond.methodLink RL 221 yX10_meanWord ∈ GW := mGA49 _ (List.mem_of_getElem? (i := 18) rfl)
theorem gw_49_19 : Cond.instanceMethod yX10_meanWord ∈ GW := mGA49 _ (List.mem_of_getElem? (i := 19) rfl)
theorem gw_49_20 : Cond.selects RX10 yX10_meanWord yX10_meanWord ∈ GW := mGA49 _ (List.mem_of_getElem? (i := 20) rfl)
theorem gw_49_21 : Cond.methodLink RL 222 yX9_isSound ∈ GW := mGA49 _ (List.mem_of_getElem? (i := 21) rfl)
theorem gw_49_22 : Cond.instanceMethod yX9_isSound ∈ GW := mGA49 _ (List.mem_of_getElem? (i := 22) rfl)
theorem gw_49_23 : Cond.selects RX9 yX9_isSound yX9_isSound ∈ GW := mGA49 _ (List.mem_of_getElem? (i := 23) rfl)
theorem gw_50_0 : Cond.methodLink RL 226 yX10_isSound ∈ GW := mGA50 _ (List.mem_of_getElem? (i := 0) rfl)
theorem gw_50_1 : Cond.instanceMethod yX10_isSound ∈ GW := mGA50 _ (List.mem_of_getElem? (i := 1) rfl)
theorem gw_50_2 : Cond.selects RX10 yX10_isSound yX10_isSound ∈ GW := mGA50 _ (List.mem_of_getElem? (i := 2) rfl)
theorem aGA0 : GA0.all goodWord = true := by decide +kernel
theorem aGA1 : GA1.all goodWord = true := by decide +kernel
theorem aGA2 : GA2.all goodWord = true := by decide +kernel
theorem aGA3 : GA3.all goodWord = true := by decide +kernel
theorem aGA4 : GA4.all goodWord = true := by decide +kernel
theorem aGA5 : GA5.all goodWord = true := by decide +kernel
theorem aGA6 : GA6.all goodWord = true := by decide +kernel
theorem aGA7 : GA7.all goodWord = true := by decide +kernel
theorem aGA8 : GA8.all goodWord = true := by decide +kernel
theorem aGA9 : GA9.all goodWord = true := by decide +kernel
theorem aGA10 : GA10.all goodWord = true := by decide +kernel
theorem aGA11 : GA11.all goodWord = true := by decide +kernel
theorem aGA12 : GA12.all goodWord = true := by decide +kernel
theorem aGA13 : GA13.all goodWord = true := by decide +kernel
theorem aGA14 : GA14.all goodWord = true := by decide +kernel
theorem aGA15 : GA15.all goodWord = true := by decide +kernel
theorem aGA16 : GA16.all goodWord = true := by decide +kernel
theorem aGA17 : GA17.all goodWord = true := by decide +kernel
theorem aGA18 : GA18.all goodWord = true := by decide +kernel
theorem aGA19 : GA19.all goodWord = true := by decide +kernel
theorem aGA20 : GA20.all goodWord = true := by decide +kernel
theorem aGA21 : GA21.all goodWord = true := by decide +kernel
theorem aGA22 : GA22.all goodWord = true := by decide +kernel
theorem aGA23 : GA23.all goodWord = true := by decide +kernel
theorem aGA24 : GA24.all goodWord = true := by decide +kernel
theorem aGA25 : GA25.all goodWord = true := by decide +kernel
theorem aGA26 : GA26.all goodWord = true := by decide +kernel
theorem aGA27 : GA27.all goodWord = true := by decide +kernel
theorem aGA28 : GA28.all goodWord = true := by decide +kernel
theorem aGA29 : GA29.all goodWord = true := by decide +kernel
theorem aGA30 : GA30.all goodWord = true := by decide +kernel
theorem aGA31 : GA31.all goodWord = true := by decide +kernel
theorem aGA32 : GA32.all goodWord = true := by decide +kernel
theorem aGA33 : GA33.all goodWord = true := by decide +kernel
theorem aGA34 : GA34.all goodWord = true := by decide +kernel
theorem aGA35 : GA35.all goodWord = true := by decide +kernel
theorem aGA36 : GA36.all goodWord = true := by decide +kernel
theorem aGA37 : GA37.all goodWord = true := by decide +kernel
theorem aGA38 : GA38.all goodWord = true := by decide +kernel
theorem aGA39 : GA39.all goodWord = true := by decide +kernel
theorem aGA40 : GA40.all goodWord = true := by decide +kernel
theorem aGA41 : GA41.all goodWord = true := by decide +kernel
theorem aGA42 : GA42.all goodWord = true := by decide +kernel
theorem aGA43 : GA43.all goodWord = true := by decide +kernel
theorem aGA44 : GA44.all goodWord = true := by decide +kernel
theorem aGA45 : GA45.all goodWord = true := by decide +kernel
theorem aGA46 : GA46.all goodWord = true := by decide +kernel
theorem aGA47 : GA47.all goodWord = true := by decide +kernel
theorem aGA48 : GA48.all goodWord = true := by decide +kernel
theorem aGA49 : GA49.all goodWord = true := by decide +kernel
theorem aGA50 : GA50.all goodWord = true := by decide +kernel
theorem awsX00 : wsX00.all goodWord = true := by decide +kernel
theorem awsX10 : wsX10.all goodWord = true := by decide +kernel
theorem awsX20 : wsX20.all goodWord = true := by decide +kernel
theorem awsX30 : wsX30.all goodWord = true := by decide +kernel
theorem awsX40 : wsX40.all goodWord = true := by decide +kernel
theorem awsX50 : wsX50.all goodWord = true := by decide +kernel
theorem awsX60 : wsX60.all goodWord = true := by decide +kernel
theorem awsX70 : wsX70.all goodWord = true := by decide +kernel
theorem awsX80 : wsX80.all goodWord = true := by decide +kernel
theorem awsX90 : wsX90.all goodWord = true := by decide +kernel
theorem awsX100 : wsX100.all goodWord = true := by decide +kernel
theorem awsJx4a65c0 : wsJx4a65c0.all goodWord = true := by decide +kernel
theorem aGT0 : GT0.all goodWord = true := by decide +kernel
theorem aGT1 : GT1.all goodWord = true := by decide +kernel
theorem aGT2 : GT2.all goodWord = true := by decide +kernel
theorem aGT3 : GT3.all goodWord = true := by decide +kernel
theorem aGT4 : GT4.all goodWord = true := by decide +kernel
theorem aGT5 : GT5.all goodWord = true := by decide +kernel
theorem GW_good : GW.all goodWord = true := by
  simp only [GW, List.all_append, aGA0, aGA1, aGA2, aGA3, aGA4, aGA5, aGA6, aGA7, aGA8, aGA9, aGA10, aGA11, aGA12, aGA13, aGA14, aGA15, aGA16, aGA17, aGA18, aGA19, aGA20, aGA21, aGA22, aGA23, aGA24, aGA25, aGA26, aGA27, aGA28, aGA29, aGA30, aGA31, aGA32, aGA33, aGA34, aGA35, aGA36, aGA37, aGA38, aGA39, aGA40, aGA41, aGA42, aGA43, aGA44, aGA45, aGA46, aGA47, aGA48, aGA49, aGA50, awsX00, awsX10, awsX20, awsX30, awsX40, awsX50, awsX60, awsX70, awsX80, awsX90, awsX100, awsJx4a65c0, aGT0, aGT1, aGT2, aGT3, aGT4, aGT5, Bool.and_self]
theorem gwI {c0 : Cond} {ws : List Cond} (h : ∀ w ∈ ws, w ∈ GW) : GoodIn (c0 :: GW) ws := fun w hw => ⟨List.mem_cons_of_mem _ (h w hw), good_of_word (List.all_eq_true.mp GW_good w (h w hw))⟩
theorem gwC {c : Cond} (h : c ∈ GW) : ∀ w ∈ c :: GW, w ∈ GW := fun w hw => (List.mem_cons.mp hw).elim (fun e => by rw [e]; exact h) (fun h => h)
theorem gwV {c0 c : Cond} {own : String} {idx : Nat} {C : String} {y : MethodName} (h1 : Cond.methodLink own idx y ∈ GW) (h2 : Cond.instanceMethod y ∈ GW) (h3 : Cond.selects C y y ∈ GW) (h4 : Cond.initialized C ∈ GW) (h5 : c ∈ GW) : GoodIn (c0 :: GW) (wsV own idx C y (c :: GW)) := gwI (fun w hw => (List.mem_append.mp hw).elim (fun h => by
  rcases List.mem_cons.mp h with e | h
  · rw [e]; exact h1
  rcases List.mem_cons.mp h with e | h
  · rw [e]; exact h2
  rcases List.mem_cons.mp h with e | h
  · rw [e]; exact h3
  rcases List.mem_cons.mp h with e | h
  · rw [e]; exact h4
  · cases h) (gwC h5 w))
theorem gwS {c0 c : Cond} {own : String} {idx : Nat} {y : MethodName} (h1 : Cond.methodLink own idx y ∈ GW) (h2 : Cond.static y ∈ GW) (h4 : Cond.initialized y.cls ∈ GW) (h5 : c ∈ GW) : GoodIn (c0 :: GW) (va_wsS own idx y (c :: GW)) := gwI (fun w hw => (List.mem_append.mp hw).elim (fun h => by
  rcases List.mem_cons.mp h with e | h
  · rw [e]; exact h1
  rcases List.mem_cons.mp h with e | h
  · rw [e]; exact h2
  rcases List.mem_cons.mp h with e | h
  · rw [e]; exact h4
  · cases h) (gwC h5 w))
abbrev wsJxa1e45_init_da8c8 : List Cond := .code yJxa1e45_init_da8c8 cJxa1e45_init_da8c8 1 none :: GW
abbrev wsJxc12de_init_da8c8 : List Cond := .code yJxc12de_init_da8c8 cJxc12de_init_da8c8 1 none :: GW
abbrev wsJx4a65c_init_da8c8 : List Cond := .code yJx4a65c_init_da8c8 cJx4a65c_init_da8c8 1 none :: GW
abbrev wsX5_init : List Cond := .code yX5_init cX5_init 2 none :: GW
abbrev wsX0_init : List Cond := .code yX0_init cX0_init 1 none :: GW
abbrev wsX5_count : List Cond := .code yX5_count cX5_count 1 (some .int) :: GW
abbrev wsX8_count : List Cond := .code yX8_count cX8_count 1 (some .int) :: GW
abbrev wsX5_reset : List Cond := .code yX5_reset cX5_reset 3 none :: GW
abbrev wsJx4a65c_size_8abf5 : List Cond := .code yJx4a65c_size_8abf5 cJx4a65c_size_8abf5 1 (some .int) :: GW
abbrev wsJ3_checkIndex_8e157 : List Cond := .code yJ3_checkIndex_8e157 cJ3_checkIndex_8e157 3 (some .int) :: GW
abbrev wsJ15_checkIndex_7cf53 : List Cond := .code yJ15_checkIndex_7cf53 cJ15_checkIndex_7cf53 2 (some .int) :: GW
abbrev wsJx4a65c_elementData_915e3 : List Cond := .code yJx4a65c_elementData_915e3 cJx4a65c_elementData_915e3 2 (some (.object "java/lang/Object")) :: GW
abbrev wsJx4a65c_get_915e3 : List Cond := .code yJx4a65c_get_915e3 cJx4a65c_get_915e3 2 (some (.object "java/lang/Object")) :: GW
abbrev wsX5_get : List Cond := .code yX5_get cX5_get 2 (some .int) :: GW
abbrev wsX8_isQuoted : List Cond := .code yX8_isQuoted cX8_isQuoted 2 (some .boolean) :: GW
abbrev wsX8_isFirst : List Cond := .code yX8_isFirst cX8_isFirst 2 (some .boolean) :: GW
abbrev wsX8_goesOn : List Cond := .code yX8_goesOn cX8_goesOn 3 (some .boolean) :: GW
abbrev wsX8_isNumber : List Cond := .code yX8_isNumber cX8_isNumber 2 (some .boolean) :: GW
abbrev wsX8_isWord : List Cond := .code yX8_isWord cX8_isWord 2 (some .boolean) :: GW
abbrev wsX8_begins : List Cond := .code yX8_begins cX8_begins 5 (some .boolean) :: GW
abbrev wsX8_lengthOf : List Cond := .code yX8_lengthOf cX8_lengthOf 2 (some .int) :: GW
abbrev wsX3_fits : List Cond := .code yX3_fits cX3_fits 3 (some .boolean) :: GW
abbrev wsX8_aheadOf : List Cond := .code yX8_aheadOf cX8_aheadOf 2 (some .int) :: GW
abbrev wsX8_isThe : List Cond := .code yX8_isThe cX8_isThe 3 (some .boolean) :: GW
abbrev wsX6_isExcepted : List Cond := .code yX6_isExcepted cX6_isExcepted 5 (some .boolean) :: GW
abbrev wsX6_isFoundAt : List Cond := .code yX6_isFoundAt cX6_isFoundAt 4 (some .boolean) :: GW
abbrev wsX5_set : List Cond := .code yX5_set cX5_set 3 none :: GW
abbrev wsX0_addHit : List Cond := .code yX0_addHit cX0_addHit 3 none :: GW
abbrev wsX0_lookForPair : List Cond := .code yX0_lookForPair cX0_lookForPair 6 none :: GW
abbrev wsX0_look : List Cond := .code yX0_look cX0_look 5 none :: GW
abbrev wsX8_valueOf : List Cond := .code yX8_valueOf cX8_valueOf 2 (some .int) :: GW
abbrev wsX0_foundAt : List Cond := .code yX0_foundAt cX0_foundAt 5 (some .int) :: GW
abbrev wsX0_itemsOf : List Cond := .code yX0_itemsOf cX0_itemsOf 2 (some .int) :: GW
abbrev wsX0_rankAt : List Cond := .code yX0_rankAt cX0_rankAt 4 (some .int) :: GW
abbrev wsX0_ofRank : List Cond := .code yX0_ofRank cX0_ofRank 5 (some .int) :: GW
abbrev wsX0_suggestionsOf : List Cond := .code yX0_suggestionsOf cX0_suggestionsOf 2 (some .int) :: GW
abbrev wsX5_add : List Cond := .code yX5_add cX5_add 2 none :: GW
abbrev wsX8_write : List Cond := .code yX8_write cX8_write 5 none :: GW
abbrev wsX6_writeTaken : List Cond := .code yX6_writeTaken cX6_writeTaken 6 none :: GW
abbrev wsX6_writeSuggestion : List Cond := .code yX6_writeSuggestion cX6_writeSuggestion 7 none :: GW
abbrev wsX4_unlike : List Cond := .code yX4_unlike cX4_unlike 3 (some (.object "Housestyle$Row")) :: GW
abbrev wsX0_writeSuggestion : List Cond := .code yX0_writeSuggestion cX0_writeSuggestion 8 none :: GW
abbrev wsX1_init : List Cond := .code yX1_init cX1_init 1 none :: GW
abbrev wsX1_uses : List Cond := .code yX1_uses cX1_uses 2 (some .boolean) :: GW
abbrev wsX1_setUse : List Cond := .code yX1_setUse cX1_setUse 3 none :: GW
abbrev wsX1_ignoredCount : List Cond := .code yX1_ignoredCount cX1_ignoredCount 1 (some .int) :: GW
abbrev wsX1_addIgnored : List Cond := .code yX1_addIgnored cX1_addIgnored 4 none :: GW
abbrev wsX5_clear : List Cond := .code yX5_clear cX5_clear 1 none :: GW
abbrev wsX1_clearIgnored : List Cond := .code yX1_clearIgnored cX1_clearIgnored 1 none :: GW
abbrev wsX1_ignores : List Cond := .code yX1_ignores cX1_ignores 5 (some .boolean) :: GW
abbrev wsX5_remove : List Cond := .code yX5_remove cX5_remove 4 (some .int) :: GW
abbrev wsX1_forget : List Cond := .code yX1_forget cX1_forget 2 none :: GW
abbrev wsX1_followPut : List Cond := .code yX1_followPut cX1_followPut 4 none :: GW
abbrev wsX1_followTake : List Cond := .code yX1_followTake cX1_followTake 4 none :: GW
abbrev wsX1_ignoredLieWithin : List Cond := .code yX1_ignoredLieWithin cX1_ignoredLieWithin 4 (some .boolean) :: GW
abbrev wsX2_init : List Cond := .code yX2_init cX2_init 3 none :: GW
abbrev wsX2_count : List Cond := .code yX2_count cX2_count 1 (some .int) :: GW
abbrev wsX2_tokenOf : List Cond := .code yX2_tokenOf cX2_tokenOf 2 (some .int) :: GW
abbrev wsX2_ruleOf : List Cond := .code yX2_ruleOf cX2_ruleOf 2 (some .int) :: GW
abbrev wsX8_fromOf : List Cond := .code yX8_fromOf cX8_fromOf 2 (some .int) :: GW
abbrev wsX2_fromOf : List Cond := .code yX2_fromOf cX2_fromOf 2 (some .int) :: GW
abbrev wsX8_endOf : List Cond := .code yX8_endOf cX8_endOf 2 (some .int) :: GW
abbrev wsX2_lengthAt : List Cond := .code yX2_lengthAt cX2_lengthAt 3 (some .int) :: GW
abbrev wsX2_lengthOf : List Cond := .code yX2_lengthOf cX2_lengthOf 2 (some .int) :: GW
abbrev wsX2_isFree : List Cond := .code yX2_isFree cX2_isFree 4 (some .boolean) :: GW
abbrev wsX2_cover : List Cond := .code yX2_cover cX2_cover 4 none :: GW
abbrev wsX2_takeBest : List Cond := .code yX2_takeBest cX2_takeBest 6 none :: GW
abbrev wsX2_solve : List Cond := .code yX2_solve cX2_solve 5 none :: GW
abbrev wsX2_shareNoSign : List Cond := .code yX2_shareNoSign cX2_shareNoSign 2 (some .boolean) :: GW
abbrev wsX2_isLeftOut : List Cond := .code yX2_isLeftOut cX2_isLeftOut 7 (some .boolean) :: GW
abbrev wsX2_accountForAll : List Cond := .code yX2_accountForAll cX2_accountForAll 7 (some .boolean) :: GW
abbrev wsX5_part : List Cond := .code yX5_part cX5_part 5 (some (.object "Housestyle$Row")) :: GW
abbrev wsX3_init : List Cond := .code yX3_init cX3_init 4 none :: GW
abbrev wsX9_isLetter : List Cond := .code yX9_isLetter cX9_isLetter 1 (some .boolean) :: GW
abbrev wsX9_isWord : List Cond := .code yX9_isWord cX9_isWord 5 (some .boolean) :: GW
abbrev wsX3_isItem : List Cond := .code yX3_isItem cX3_isItem 4 (some .boolean) :: GW
abbrev wsX4_init : List Cond := .code yX4_init cX4_init 3 none :: GW
abbrev wsX5_insert : List Cond := .code yX5_insert cX5_insert 4 none :: GW
abbrev wsX5_placeOf : List Cond := .code yX5_placeOf cX5_placeOf 3 (some .int) :: GW
abbrev wsX5_isLike : List Cond := .code yX5_isLike cX5_isLike 3 (some .boolean) :: GW
abbrev wsJ8_hugeLength_7cf53 : List Cond := .code yJ8_hugeLength_7cf53 cJ8_hugeLength_7cf53 3 (some .int) :: GW
abbrev wsJ8_newLength_cabcc : List Cond := .code yJ8_newLength_cabcc cJ8_newLength_cabcc 4 (some .int) :: GW
abbrev wsJ7_copyOf_6403c : List Cond := .code yJ7_copyOf_6403c cJ7_copyOf_6403c 4 (some (.array (.object "java/lang/Object"))) :: GW
abbrev wsJ7_copyOf_1904c : List Cond := .code yJ7_copyOf_1904c cJ7_copyOf_1904c 2 (some (.array (.object "java/lang/Object"))) :: GW
abbrev wsJx4a65c_grow_92f84 : List Cond := .code yJx4a65c_grow_92f84 cJx4a65c_grow_92f84 4 (some (.array (.object "java/lang/Object"))) :: GW
abbrev wsJx4a65c_grow_d5877 : List Cond := .code yJx4a65c_grow_d5877 cJx4a65c_grow_d5877 1 (some (.array (.object "java/lang/Object"))) :: GW
abbrev wsJx4a65c_add_72be8 : List Cond := .code yJx4a65c_add_72be8 cJx4a65c_add_72be8 4 none :: GW
abbrev wsJx4a65c_add_9ea2d : List Cond := .code yJx4a65c_add_9ea2d cJx4a65c_add_9ea2d 2 (some .boolean) :: GW
abbrev wsX6_init : List Cond := .code yX6_init cX6_init 7 none :: GW
abbrev wsX6_isPattern : List Cond := .code yX6_isPattern cX6_isPattern 4 (some .boolean) :: GW
abbrev wsX9_isDigit : List Cond := .code yX9_isDigit cX9_isDigit 1 (some .boolean) :: GW
abbrev wsX6_isSuggestion : List Cond := .code yX6_isSuggestion cX6_isSuggestion 4 (some .boolean) :: GW
abbrev wsX7_init : List Cond := .code yX7_init cX7_init 1 none :: GW
abbrev wsX7_paragraphAt : List Cond := .code yX7_paragraphAt cX7_paragraphAt 4 (some .int) :: GW
abbrev wsX7_insert : List Cond := .code yX7_insert cX7_insert 5 none :: GW
abbrev wsX7_remove : List Cond := .code yX7_remove cX7_remove 4 (some .char) :: GW
abbrev wsX7_markAll : List Cond := .code yX7_markAll cX7_markAll 3 none :: GW
abbrev wsX7_clearChanged : List Cond := .code yX7_clearChanged cX7_clearChanged 5 (some .int) :: GW
abbrev wsX8_init : List Cond := .code yX8_init cX8_init 2 none :: GW
abbrev wsX8_clear : List Cond := .code yX8_clear cX8_clear 1 none :: GW
abbrev wsX8_beginParagraph : List Cond := .code yX8_beginParagraph cX8_beginParagraph 1 none :: GW
abbrev wsX8_kindOf : List Cond := .code yX8_kindOf cX8_kindOf 1 (some .int) :: GW
abbrev wsX8_passSign : List Cond := .code yX8_passSign cX8_passSign 2 none :: GW
abbrev wsX8_beginToken : List Cond := .code yX8_beginToken cX8_beginToken 3 none :: GW
abbrev wsX8_lengthen : List Cond := .code yX8_lengthen cX8_lengthen 3 none :: GW
abbrev wsX8_read : List Cond := .code yX8_read cX8_read 5 none :: GW
abbrev wsX9_init : List Cond := .code yX9_init cX9_init 2 none :: GW
abbrev wsX9_isTypeable : List Cond := .code yX9_isTypeable cX9_isTypeable 1 (some .boolean) :: GW
abbrev wsX9_type : List Cond := .code yX9_type cX9_type 2 (some .int) :: GW
abbrev wsX9_wipe : List Cond := .code yX9_wipe cX9_wipe 2 (some .int) :: GW
abbrev wsX9_isTextSign : List Cond := .code yX9_isTextSign cX9_isTextSign 1 (some .boolean) :: GW
abbrev wsX9_isWriter : List Cond := .code yX9_isWriter cX9_isWriter 1 (some .boolean) :: GW
abbrev wsX9_noteStale : List Cond := .code yX9_noteStale cX9_noteStale 1 none :: GW
abbrev wsX9_putIn : List Cond := .code yX9_putIn cX9_putIn 5 none :: GW
abbrev wsX9_put : List Cond := .code yX9_put cX9_put 4 (some .int) :: GW
abbrev wsX9_needPlace : List Cond := .code yX9_needPlace cX9_needPlace 2 none :: GW
abbrev wsX9_takeOut : List Cond := .code yX9_takeOut cX9_takeOut 4 (some .char) :: GW
abbrev wsX9_take : List Cond := .code yX9_take cX9_take 2 (some .char) :: GW
abbrev wsX9_at : List Cond := .code yX9_at cX9_at 2 (some .char) :: GW
abbrev wsX9_length : List Cond := .code yX9_length cX9_length 1 (some .int) :: GW
abbrev wsX9_noteTold : List Cond := .code yX9_noteTold cX9_noteTold 1 none :: GW
abbrev wsX9_rule : List Cond := .code yX9_rule cX9_rule 5 (some .int) :: GW
abbrev wsX9_ruleAt : List Cond := .code yX9_ruleAt cX9_ruleAt 2 (some (.object "Housestyle$Rule")) :: GW
abbrev wsX9_except : List Cond := .code yX9_except cX9_except 3 (some .int) :: GW
abbrev wsX9_suggest : List Cond := .code yX9_suggest cX9_suggest 3 (some .int) :: GW
abbrev wsX9_pair : List Cond := .code yX9_pair cX9_pair 3 (some .int) :: GW
abbrev wsX9_deskAt : List Cond := .code yX9_deskAt cX9_deskAt 2 (some (.object "Housestyle$Desk")) :: GW
abbrev wsX9_noteSettings : List Cond := .code yX9_noteSettings cX9_noteSettings 2 none :: GW
abbrev wsX9_use : List Cond := .code yX9_use cX9_use 6 (some .boolean) :: GW
abbrev wsX9_rank : List Cond := .code yX9_rank cX9_rank 6 (some .int) :: GW
abbrev wsX9_limit : List Cond := .code yX9_limit cX9_limit 5 (some .int) :: GW
abbrev wsX9_findFor : List Cond := .code yX9_findFor cX9_findFor 3 (some (.object "Housestyle$Desk")) :: GW
abbrev wsX9_findings : List Cond := .code yX9_findings cX9_findings 2 (some .int) :: GW
abbrev wsX9_needFinding : List Cond := .code yX9_needFinding cX9_needFinding 2 none :: GW
abbrev wsX9_of : List Cond := .code yX9_of cX9_of 6 (some .int) :: GW
abbrev wsX9_propose : List Cond := .code yX9_propose cX9_propose 4 none :: GW
abbrev wsX9_size : List Cond := .code yX9_size cX9_size 4 (some .int) :: GW
abbrev wsX9_sign : List Cond := .code yX9_sign cX9_sign 5 (some .char) :: GW
abbrev wsX9_apply : List Cond := .code yX9_apply cX9_apply 8 (some .int) :: GW
abbrev wsX9_ignore : List Cond := .code yX9_ignore cX9_ignore 4 (some .int) :: GW
abbrev wsX9_ignored : List Cond := .code yX9_ignored cX9_ignored 2 (some .int) :: GW
abbrev wsX9_heed : List Cond := .code yX9_heed cX9_heed 4 (some .int) :: GW
abbrev wsX9_tokens : List Cond := .code yX9_tokens cX9_tokens 4 (some .int) :: GW
abbrev wsX9_paragraphs : List Cond := .code yX9_paragraphs cX9_paragraphs 1 (some .int) :: GW
abbrev wsX9_check : List Cond := .code yX9_check cX9_check 2 (some .int) :: GW
abbrev wsX9_byRule : List Cond := .code yX9_byRule cX9_byRule 5 (some .int) :: GW
abbrev wsX9_byWriter : List Cond := .code yX9_byWriter cX9_byWriter 5 (some .int) :: GW
abbrev wsX9_checksum : List Cond := .code yX9_checksum cX9_checksum 4 (some .long) :: GW
abbrev wsX9_foundShare : List Cond := .code yX9_foundShare cX9_foundShare 5 (some .float) :: GW
abbrev wsX9_meanWord : List Cond := .code yX9_meanWord cX9_meanWord 4 (some .double) :: GW
abbrev wsX9_isSound : List Cond := .code yX9_isSound cX9_isSound 4 (some .boolean) :: GW
abbrev wsX10_init : List Cond := .code yX10_init cX10_init 2 none :: GW
abbrev wsX10_thrown : List Cond := .code yX10_thrown cX10_thrown 1 (some .int) :: GW
abbrev wsX10_in : List Cond := .code yX10_in cX10_in 3 (some .boolean) :: GW
abbrev wsX10_isLetter : List Cond := .code yX10_isLetter cX10_isLetter 1 (some .boolean) :: GW
abbrev wsX10_isDigit : List Cond := .code yX10_isDigit cX10_isDigit 1 (some .boolean) :: GW
abbrev wsX10_isDesk : List Cond := .code yX10_isDesk cX10_isDesk 1 (some .boolean) :: GW
abbrev wsX10_noDesk : List Cond := .code yX10_noDesk cX10_noDesk 2 (some .boolean) :: GW
abbrev wsX10_noRule : List Cond := .code yX10_noRule cX10_noRule 2 (some .boolean) :: GW
abbrev wsX10_type : List Cond := .code yX10_type cX10_type 3 (some .int) :: GW
abbrev wsX10_wipe : List Cond := .code yX10_wipe cX10_wipe 2 (some .int) :: GW
abbrev wsX10_lettersFrom : List Cond := .code yX10_lettersFrom cX10_lettersFrom 3 (some .int) :: GW
abbrev wsX10_endsAhead : List Cond := .code yX10_endsAhead cX10_endsAhead 4 (some .int) :: GW
abbrev wsX10_paragraphsNow : List Cond := .code yX10_paragraphsNow cX10_paragraphsNow 1 (some .int) :: GW
abbrev wsX10_marks : List Cond := .code yX10_marks cX10_marks 3 none :: GW
abbrev wsX10_marksAll : List Cond := .code yX10_marksAll cX10_marksAll 2 none :: GW
abbrev wsX10_follows : List Cond := .code yX10_follows cX10_follows 12 none :: GW
abbrev wsX10_puts : List Cond := .code yX10_puts cX10_puts 9 none :: GW
abbrev wsX10_takesOut : List Cond := .code yX10_takesOut cX10_takesOut 8 none :: GW
abbrev wsX10_put : List Cond := .code yX10_put cX10_put 5 (some .int) :: GW
abbrev wsX10_take : List Cond := .code yX10_take cX10_take 3 (some .char) :: GW
abbrev wsX10_at : List Cond := .code yX10_at cX10_at 2 (some .char) :: GW
abbrev wsX10_length : List Cond := .code yX10_length cX10_length 1 (some .int) :: GW
abbrev wsX10_isPattern : List Cond := .code yX10_isPattern cX10_isPattern 11 (some .boolean) :: GW
abbrev wsX10_rule : List Cond := .code yX10_rule cX10_rule 5 (some .int) :: GW
abbrev wsX10_except : List Cond := .code yX10_except cX10_except 5 (some .int) :: GW
abbrev wsX10_suggest : List Cond := .code yX10_suggest cX10_suggest 6 (some .int) :: GW
abbrev wsX10_pair : List Cond := .code yX10_pair cX10_pair 6 (some .int) :: GW
abbrev wsX10_use : List Cond := .code yX10_use cX10_use 5 (some .boolean) :: GW
abbrev wsX10_rankAt : List Cond := .code yX10_rankAt cX10_rankAt 4 (some .int) :: GW
abbrev wsX10_rank : List Cond := .code yX10_rank cX10_rank 5 (some .int) :: GW
abbrev wsX10_limit : List Cond := .code yX10_limit cX10_limit 4 (some .int) :: GW
abbrev wsX10_scan : List Cond := .code yX10_scan cX10_scan 7 none :: GW
abbrev wsX10_isAnyQuoted : List Cond := .code yX10_isAnyQuoted cX10_isAnyQuoted 5 (some .boolean) :: GW
abbrev wsX10_isFirstOfSentence : List Cond := .code yX10_isFirstOfSentence cX10_isFirstOfSentence 4 (some .boolean) :: GW
abbrev wsX10_fits : List Cond := .code yX10_fits cX10_fits 6 (some .boolean) :: GW
abbrev wsX10_isAt : List Cond := .code yX10_isAt cX10_isAt 5 (some .boolean) :: GW
abbrev wsX10_isExcepted : List Cond := .code yX10_isExcepted cX10_isExcepted 7 (some .boolean) :: GW
abbrev wsX10_valueOf : List Cond := .code yX10_valueOf cX10_valueOf 4 (some .int) :: GW
abbrev wsX10_wordOf : List Cond := .code yX10_wordOf cX10_wordOf 7 (some .int) :: GW
abbrev wsX10_isIgnored : List Cond := .code yX10_isIgnored cX10_isIgnored 7 (some .boolean) :: GW
abbrev wsX10_finds : List Cond := .code yX10_finds cX10_finds 6 none :: GW
abbrev wsX10_findsAll : List Cond := .code yX10_findsAll cX10_findsAll 6 none :: GW
abbrev wsX10_placeOf : List Cond := .code yX10_placeOf cX10_placeOf 2 (some .int) :: GW
abbrev wsX10_isAhead : List Cond := .code yX10_isAhead cX10_isAhead 3 (some .boolean) :: GW
abbrev wsX10_isFree : List Cond := .code yX10_isFree cX10_isFree 4 (some .boolean) :: GW
abbrev wsX10_look : List Cond := .code yX10_look cX10_look 5 none :: GW
abbrev wsX10_findings : List Cond := .code yX10_findings cX10_findings 2 (some .int) :: GW
abbrev wsX10_suggestionsOf : List Cond := .code yX10_suggestionsOf cX10_suggestionsOf 3 (some .int) :: GW
abbrev wsX10_isThing : List Cond := .code yX10_isThing cX10_isThing 1 (some .boolean) :: GW
abbrev wsX10_of : List Cond := .code yX10_of cX10_of 6 (some .int) :: GW
abbrev wsX10_outs : List Cond := .code yX10_outs cX10_outs 2 none :: GW
abbrev wsX10_star : List Cond := .code yX10_star cX10_star 8 none :: GW
abbrev wsX10_isMade : List Cond := .code yX10_isMade cX10_isMade 8 (some .boolean) :: GW
abbrev wsX10_size : List Cond := .code yX10_size cX10_size 4 (some .int) :: GW
abbrev wsX10_sign : List Cond := .code yX10_sign cX10_sign 5 (some .char) :: GW
abbrev wsX10_apply : List Cond := .code yX10_apply cX10_apply 8 (some .int) :: GW
abbrev wsX10_ignore : List Cond := .code yX10_ignore cX10_ignore 4 (some .int) :: GW
abbrev wsX10_ignored : List Cond := .code yX10_ignored cX10_ignored 2 (some .int) :: GW
abbrev wsX10_heed : List Cond := .code yX10_heed cX10_heed 3 (some .int) :: GW
abbrev wsX10_tokens : List Cond := .code yX10_tokens cX10_tokens 4 (some .int) :: GW
abbrev wsX10_paragraphs : List Cond := .code yX10_paragraphs cX10_paragraphs 1 (some .int) :: GW
abbrev wsX10_check : List Cond := .code yX10_check cX10_check 4 (some .int) :: GW
abbrev wsX10_byRule : List Cond := .code yX10_byRule cX10_byRule 5 (some .int) :: GW
abbrev wsX10_byWriter : List Cond := .code yX10_byWriter cX10_byWriter 5 (some .int) :: GW
abbrev wsX10_checksum : List Cond := .code yX10_checksum cX10_checksum 4 (some .long) :: GW
abbrev wsX10_foundShare : List Cond := .code yX10_foundShare cX10_foundShare 4 (some .float) :: GW
abbrev wsX10_meanWord : List Cond := .code yX10_meanWord cX10_meanWord 4 (some .double) :: GW
abbrev wsX10_isSound : List Cond := .code yX10_isSound cX10_isSound 1 (some .boolean) :: GW
abbrev wsJx00060_init_a7421 : List Cond := .code yJx00060_init_a7421 cJx00060_init_a7421 2 none :: GW
abbrev wsJ9_max_7cf53 : List Cond := .code yJ9_max_7cf53 cJ9_max_7cf53 2 (some .int) :: GW
abbrev wsJ9_min_7cf53 : List Cond := .code yJ9_min_7cf53 cJ9_min_7cf53 2 (some .int) :: GW
abbrev wsL_type : List Cond := .codeWith yL_type cL_type 4 (some .int) [(0, 9, 12, 13), (0, 9, 15, 15)] :: GW
abbrev wsL_put : List Cond := .codeWith yL_put cL_put 6 (some .int) [(0, 12, 15, 21), (0, 12, 19, 13), (0, 12, 23, 15)] :: GW
abbrev wsL_take : List Cond := .codeWith yL_take cL_take 4 (some .int) [(0, 9, 12, 21)] :: GW
abbrev wsL_at : List Cond := .codeWith yL_at cL_at 4 (some .int) [(0, 9, 12, 21)] :: GW
abbrev wsL_rule : List Cond := .codeWith yL_rule cL_rule 6 (some .int) [(0, 12, 15, 13), (0, 12, 19, 34), (0, 12, 23, 15)] :: GW
abbrev wsL_except : List Cond := .codeWith yL_except cL_except 4 (some .int) [(0, 9, 12, 21), (0, 9, 15, 34), (0, 9, 18, 15)] :: GW
abbrev wsL_suggest : List Cond := .codeWith yL_suggest cL_suggest 4 (some .int) [(0, 9, 12, 21), (0, 9, 15, 34), (0, 9, 18, 15)] :: GW
abbrev wsL_pair : List Cond := .codeWith yL_pair cL_pair 3 (some .int) [(0, 8, 11, 34), (0, 8, 14, 15)] :: GW
abbrev wsL_use : List Cond := .codeWith yL_use cL_use 6 (some .int) [(0, 19, 22, 21), (0, 19, 26, 13)] :: GW
abbrev wsL_rank : List Cond := .codeWith yL_rank cL_rank 6 (some .int) [(0, 12, 15, 21), (0, 12, 19, 13)] :: GW
abbrev wsL_limit : List Cond := .codeWith yL_limit cL_limit 5 (some .int) [(0, 10, 13, 13)] :: GW
abbrev wsL_findings : List Cond := .codeWith yL_findings cL_findings 4 (some .int) [(0, 9, 12, 13)] :: GW
abbrev wsL_of : List Cond := .codeWith yL_of cL_of 6 (some .int) [(0, 12, 15, 13), (0, 12, 19, 66)] :: GW
abbrev wsL_size : List Cond := .codeWith yL_size cL_size 6 (some .int) [(0, 12, 15, 13), (0, 12, 19, 66)] :: GW
abbrev wsL_sign : List Cond := .codeWith yL_sign cL_sign 7 (some .int) [(0, 14, 17, 13), (0, 14, 21, 66)] :: GW
abbrev wsL_apply : List Cond := .codeWith yL_apply cL_apply 7 (some .int) [(0, 14, 17, 13), (0, 14, 21, 66), (0, 14, 25, 15)] :: GW
abbrev wsL_ignore : List Cond := .codeWith yL_ignore cL_ignore 5 (some .int) [(0, 10, 13, 13), (0, 10, 17, 66), (0, 10, 21, 15)] :: GW
abbrev wsL_ignored : List Cond := .codeWith yL_ignored cL_ignored 4 (some .int) [(0, 9, 12, 13)] :: GW
abbrev wsL_heed : List Cond := .codeWith yL_heed cL_heed 4 (some .int) [(0, 9, 12, 13)] :: GW
abbrev wsL_check : List Cond := .codeWith yL_check cL_check 4 (some .int) [(0, 9, 12, 13)] :: GW
abbrev wsL_byRule : List Cond := .codeWith yL_byRule cL_byRule 5 (some .int) [(0, 10, 13, 13)] :: GW
abbrev wsL_byWriter : List Cond := .codeWith yL_byWriter cL_byWriter 5 (some .int) [(0, 10, 13, 13)] :: GW
abbrev wsL_foundShare : List Cond := .codeWith yL_foundShare cL_foundShare 4 (some .int) [(0, 9, 12, 13), (0, 9, 15, 101)] :: GW
abbrev wsL_meanWord : List Cond := .codeWith yL_meanWord cL_meanWord 3 (some .int) [(0, 7, 10, 101)] :: GW
