/-! LINKS: words of the tables by their places (written by wip/gen/emit.py) -/
def y_moment_init : MethodName := ⟨"WhichSwitch$Moment", "<init>", "()V"⟩
theorem hc_moment_init : Cond.code y_moment_init prog_6_method_1_code 2 none ∈ q_tb := q_inT1 44 rfl rfl
theorem hi_moment_init : Cond.initialized y_moment_init.cls ∈ q_tb := q_inT1 2 rfl rfl
theorem hn_moment_init : Cond.instanceMethod y_moment_init ∈ q_tb := q_inT1 43 rfl rfl
theorem hy_moment_init : y_moment_init.cls ≠ "java/lang/invoke/MethodHandle" ∧ y_moment_init.cls ≠ "java/lang/invoke/VarHandle" ∧ (parseMethodDescriptor y_moment_init.desc).map (fun d => d.parameters.length) = some 0 := by decide +kernel
def y_reader_init : MethodName := ⟨"WhichSwitch$Reader", "<init>", "()V"⟩
theorem hc_reader_init : Cond.code y_reader_init prog_7_method_1_code 1 none ∈ q_tb := q_inT1 96 rfl rfl
theorem hi_reader_init : Cond.initialized y_reader_init.cls ∈ q_tb := q_inT1 4 rfl rfl
theorem hn_reader_init : Cond.instanceMethod y_reader_init ∈ q_tb := q_inT1 95 rfl rfl
theorem hy_reader_init : y_reader_init.cls ≠ "java/lang/invoke/MethodHandle" ∧ y_reader_init.cls ≠ "java/lang/invoke/VarHandle" ∧ (parseMethodDescriptor y_reader_init.desc).map (fun d => d.parameters.length) = some 0 := by decide +kernel
def y_machine_init : MethodName := ⟨"WhichSwitch$Machine", "<init>", "()V"⟩
theorem hc_machine_init : Cond.code y_machine_init prog_5_method_1_code 1 none ∈ q_tb := q_inT1 147 rfl rfl
theorem hi_machine_init : Cond.initialized y_machine_init.cls ∈ q_tb := q_inT1 6 rfl rfl
theorem hn_machine_init : Cond.instanceMethod y_machine_init ∈ q_tb := q_inT1 146 rfl rfl
theorem hy_machine_init : y_machine_init.cls ≠ "java/lang/invoke/MethodHandle" ∧ y_machine_init.cls ≠ "java/lang/invoke/VarHandle" ∧ (parseMethodDescriptor y_machine_init.desc).map (fun d => d.parameters.length) = some 0 := by decide +kernel
def y_sumset_init : MethodName := ⟨"WhichSwitch$SumSet", "<init>", "()V"⟩
theorem hc_sumset_init : Cond.code y_sumset_init prog_9_method_1_code 1 none ∈ q_tb := q_inT1 163 rfl rfl
theorem hi_sumset_init : Cond.initialized y_sumset_init.cls ∈ q_tb := q_inT1 7 rfl rfl
theorem hn_sumset_init : Cond.instanceMethod y_sumset_init ∈ q_tb := q_inT1 162 rfl rfl
theorem hy_sumset_init : y_sumset_init.cls ≠ "java/lang/invoke/MethodHandle" ∧ y_sumset_init.cls ≠ "java/lang/invoke/VarHandle" ∧ (parseMethodDescriptor y_sumset_init.desc).map (fun d => d.parameters.length) = some 0 := by decide +kernel
def y_fuse_init : MethodName := ⟨"WhichSwitch$Fuse", "<init>", "()V"⟩
theorem hc_fuse_init : Cond.code y_fuse_init prog_3_method_1_code 1 none ∈ q_tb := q_inT1 173 rfl rfl
theorem hi_fuse_init : Cond.initialized y_fuse_init.cls ∈ q_tb := q_inT1 8 rfl rfl
theorem hn_fuse_init : Cond.instanceMethod y_fuse_init ∈ q_tb := q_inT1 172 rfl rfl
theorem hy_fuse_init : y_fuse_init.cls ≠ "java/lang/invoke/MethodHandle" ∧ y_fuse_init.cls ≠ "java/lang/invoke/VarHandle" ∧ (parseMethodDescriptor y_fuse_init.desc).map (fun d => d.parameters.length) = some 0 := by decide +kernel
def y_lamp_init : MethodName := ⟨"WhichSwitch$Lamp", "<init>", "()V"⟩
theorem hc_lamp_init : Cond.code y_lamp_init prog_4_method_1_code 1 none ∈ q_tb := q_inT1 188 rfl rfl
theorem hi_lamp_init : Cond.initialized y_lamp_init.cls ∈ q_tb := q_inT1 9 rfl rfl
theorem hn_lamp_init : Cond.instanceMethod y_lamp_init ∈ q_tb := q_inT1 187 rfl rfl
theorem hy_lamp_init : y_lamp_init.cls ≠ "java/lang/invoke/MethodHandle" ∧ y_lamp_init.cls ≠ "java/lang/invoke/VarHandle" ∧ (parseMethodDescriptor y_lamp_init.desc).map (fun d => d.parameters.length) = some 0 := by decide +kernel
def y_wiring_init : MethodName := ⟨"WhichSwitch$Wiring", "<init>", "()V"⟩
theorem hc_wiring_init : Cond.code y_wiring_init prog_11_method_1_code 1 none ∈ q_tb := q_inT1 218 rfl rfl
theorem hi_wiring_init : Cond.initialized y_wiring_init.cls ∈ q_tb := q_inT1 10 rfl rfl
theorem hn_wiring_init : Cond.instanceMethod y_wiring_init ∈ q_tb := q_inT1 217 rfl rfl
theorem hy_wiring_init : y_wiring_init.cls ≠ "java/lang/invoke/MethodHandle" ∧ y_wiring_init.cls ≠ "java/lang/invoke/VarHandle" ∧ (parseMethodDescriptor y_wiring_init.desc).map (fun d => d.parameters.length) = some 0 := by decide +kernel
def y_text_init : MethodName := ⟨"WhichSwitch$Text", "<init>", "()V"⟩
theorem hc_text_init : Cond.code y_text_init prog_10_method_1_code 1 none ∈ q_tb := q_inT1 102 rfl rfl
theorem hi_text_init : Cond.initialized y_text_init.cls ∈ q_tb := q_inT1 5 rfl rfl
theorem hn_text_init : Cond.instanceMethod y_text_init ∈ q_tb := q_inT1 101 rfl rfl
theorem hy_text_init : y_text_init.cls ≠ "java/lang/invoke/MethodHandle" ∧ y_text_init.cls ≠ "java/lang/invoke/VarHandle" ∧ (parseMethodDescriptor y_text_init.desc).map (fun d => d.parameters.length) = some 0 := by decide +kernel
def y_sheet_init : MethodName := ⟨"WhichSwitch$Sheet", "<init>", "()V"⟩
theorem hc_sheet_init : Cond.code y_sheet_init prog_8_method_1_code 1 none ∈ q_tb := q_inT1 236 rfl rfl
theorem hi_sheet_init : Cond.initialized y_sheet_init.cls ∈ q_tb := q_inT1 11 rfl rfl
theorem hn_sheet_init : Cond.instanceMethod y_sheet_init ∈ q_tb := q_inT1 235 rfl rfl
theorem hy_sheet_init : y_sheet_init.cls ≠ "java/lang/invoke/MethodHandle" ∧ y_sheet_init.cls ≠ "java/lang/invoke/VarHandle" ∧ (parseMethodDescriptor y_sheet_init.desc).map (fun d => d.parameters.length) = some 0 := by decide +kernel
def y_reader_fill : MethodName := ⟨"WhichSwitch$Reader", "fill", "(Ljava/lang/String;)V"⟩
theorem hc_reader_fill : Cond.code y_reader_fill prog_7_method_3_code 3 none ∈ q_tb := q_inT2 16 rfl rfl
theorem hi_reader_fill : Cond.initialized y_reader_fill.cls ∈ q_tb := q_inT1 4 rfl rfl
theorem hn_reader_fill : Cond.instanceMethod y_reader_fill ∈ q_tb := q_inT2 15 rfl rfl
theorem hz_reader_fill : Cond.selects y_reader_fill.cls y_reader_fill y_reader_fill ∈ q_tb := q_inP1 0 rfl
theorem hy_reader_fill : y_reader_fill.cls ≠ "java/lang/invoke/MethodHandle" ∧ y_reader_fill.cls ≠ "java/lang/invoke/VarHandle" ∧ (parseMethodDescriptor y_reader_fill.desc).map (fun d => d.parameters.length) = some 1 := by decide +kernel
def y_reader_findFault : MethodName := ⟨"WhichSwitch$Reader", "findFault", "()I"⟩
theorem hc_reader_findFault : Cond.code y_reader_findFault prog_7_method_5_code 2 (some .int) ∈ q_tb := q_inT2 72 rfl rfl
theorem hi_reader_findFault : Cond.initialized y_reader_findFault.cls ∈ q_tb := q_inT1 4 rfl rfl
theorem hn_reader_findFault : Cond.instanceMethod y_reader_findFault ∈ q_tb := q_inT2 71 rfl rfl
theorem hz_reader_findFault : Cond.selects y_reader_findFault.cls y_reader_findFault y_reader_findFault ∈ q_tb := q_inP1 2 rfl
theorem hy_reader_findFault : y_reader_findFault.cls ≠ "java/lang/invoke/MethodHandle" ∧ y_reader_findFault.cls ≠ "java/lang/invoke/VarHandle" ∧ (parseMethodDescriptor y_reader_findFault.desc).map (fun d => d.parameters.length) = some 0 := by decide +kernel
def y_reader_empty : MethodName := ⟨"WhichSwitch$Reader", "empty", "()V"⟩
theorem hc_reader_empty : Cond.code y_reader_empty prog_7_method_4_code 1 none ∈ q_tb := q_inT2 216 rfl rfl
theorem hi_reader_empty : Cond.initialized y_reader_empty.cls ∈ q_tb := q_inT1 4 rfl rfl
theorem hn_reader_empty : Cond.instanceMethod y_reader_empty ∈ q_tb := q_inT2 215 rfl rfl
theorem hz_reader_empty : Cond.selects y_reader_empty.cls y_reader_empty y_reader_empty ∈ q_tb := q_inP2 6 rfl
theorem hy_reader_empty : y_reader_empty.cls ≠ "java/lang/invoke/MethodHandle" ∧ y_reader_empty.cls ≠ "java/lang/invoke/VarHandle" ∧ (parseMethodDescriptor y_reader_empty.desc).map (fun d => d.parameters.length) = some 0 := by decide +kernel
def y_text_takeFrom : MethodName := ⟨"WhichSwitch$Text", "takeFrom", "(LWhichSwitch$Text;)V"⟩
theorem hc_text_takeFrom : Cond.code y_text_takeFrom prog_10_method_5_code 2 none ∈ q_tb := q_inT2 220 rfl rfl
theorem hi_text_takeFrom : Cond.initialized y_text_takeFrom.cls ∈ q_tb := q_inT1 5 rfl rfl
theorem hn_text_takeFrom : Cond.instanceMethod y_text_takeFrom ∈ q_tb := q_inT2 219 rfl rfl
theorem hz_text_takeFrom : Cond.selects y_text_takeFrom.cls y_text_takeFrom y_text_takeFrom ∈ q_tb := q_inP2 7 rfl
theorem hy_text_takeFrom : y_text_takeFrom.cls ≠ "java/lang/invoke/MethodHandle" ∧ y_text_takeFrom.cls ≠ "java/lang/invoke/VarHandle" ∧ (parseMethodDescriptor y_text_takeFrom.desc).map (fun d => d.parameters.length) = some 1 := by decide +kernel
def y_ask_init : MethodName := ⟨"WhichSwitch$Ask", "<init>", "()V"⟩
theorem hc_ask_init : Cond.code y_ask_init prog_2_method_1_code 1 none ∈ q_tb := q_inT1 51 rfl rfl
theorem hi_ask_init : Cond.initialized y_ask_init.cls ∈ q_tb := q_inT1 3 rfl rfl
theorem hn_ask_init : Cond.instanceMethod y_ask_init ∈ q_tb := q_inT1 50 rfl rfl
theorem hy_ask_init : y_ask_init.cls ≠ "java/lang/invoke/MethodHandle" ∧ y_ask_init.cls ≠ "java/lang/invoke/VarHandle" ∧ (parseMethodDescriptor y_ask_init.desc).map (fun d => d.parameters.length) = some 0 := by decide +kernel
def y_js_length : MethodName := ⟨"java/lang/String", "length", "()I"⟩
theorem hc_js_length : Cond.code y_js_length prog_18_method_54_code 1 (some .int) ∈ q_tb := q_inT2 20 rfl rfl
theorem hi_js_length : Cond.initialized y_js_length.cls ∈ q_tb := q_inT1 12 rfl rfl
theorem hn_js_length : Cond.instanceMethod y_js_length ∈ q_tb := q_inT2 18 rfl rfl
theorem hz_js_length : Cond.selects y_js_length.cls y_js_length y_js_length ∈ q_tb := q_inT2 19 rfl rfl
theorem hy_js_length : y_js_length.cls ≠ "java/lang/invoke/MethodHandle" ∧ y_js_length.cls ≠ "java/lang/invoke/VarHandle" ∧ (parseMethodDescriptor y_js_length.desc).map (fun d => d.parameters.length) = some 0 := by decide +kernel
def y_js_charAt : MethodName := ⟨"java/lang/String", "charAt", "(I)C"⟩
theorem hc_js_charAt : Cond.code y_js_charAt prog_18_method_56_code 2 (some .char) ∈ q_tb := q_inT2 30 rfl rfl
theorem hi_js_charAt : Cond.initialized y_js_charAt.cls ∈ q_tb := q_inT1 12 rfl rfl
theorem hn_js_charAt : Cond.instanceMethod y_js_charAt ∈ q_tb := q_inT2 28 rfl rfl
theorem hz_js_charAt : Cond.selects y_js_charAt.cls y_js_charAt y_js_charAt ∈ q_tb := q_inT2 29 rfl rfl
theorem hy_js_charAt : y_js_charAt.cls ≠ "java/lang/invoke/MethodHandle" ∧ y_js_charAt.cls ≠ "java/lang/invoke/VarHandle" ∧ (parseMethodDescriptor y_js_charAt.desc).map (fun d => d.parameters.length) = some 1 := by decide +kernel
def y_reader_append : MethodName := ⟨"WhichSwitch$Reader", "append", "(I)V"⟩
theorem hc_reader_append : Cond.code y_reader_append prog_7_method_2_code 2 none ∈ q_tb := q_inT2 68 rfl rfl
theorem hi_reader_append : Cond.initialized y_reader_append.cls ∈ q_tb := q_inT1 4 rfl rfl
theorem hn_reader_append : Cond.instanceMethod y_reader_append ∈ q_tb := q_inT2 67 rfl rfl
theorem hz_reader_append : Cond.selects y_reader_append.cls y_reader_append y_reader_append ∈ q_tb := q_inP1 1 rfl
theorem hy_reader_append : y_reader_append.cls ≠ "java/lang/invoke/MethodHandle" ∧ y_reader_append.cls ≠ "java/lang/invoke/VarHandle" ∧ (parseMethodDescriptor y_reader_append.desc).map (fun d => d.parameters.length) = some 1 := by decide +kernel
def y_js_coder : MethodName := ⟨"java/lang/String", "coder", "()B"⟩
theorem hc_js_coder : Cond.code y_js_coder prog_18_method_152_code 1 (some .byte) ∈ q_tb := q_inT2 24 rfl rfl
theorem hi_js_coder : Cond.initialized y_js_coder.cls ∈ q_tb := q_inT1 12 rfl rfl
theorem hn_js_coder : Cond.instanceMethod y_js_coder ∈ q_tb := q_inT2 22 rfl rfl
theorem hz_js_coder : Cond.selects y_js_coder.cls y_js_coder y_js_coder ∈ q_tb := q_inT2 23 rfl rfl
theorem hy_js_coder : y_js_coder.cls ≠ "java/lang/invoke/MethodHandle" ∧ y_js_coder.cls ≠ "java/lang/invoke/VarHandle" ∧ (parseMethodDescriptor y_js_coder.desc).map (fun d => d.parameters.length) = some 0 := by decide +kernel
def y_js_isLatin1 : MethodName := ⟨"java/lang/String", "isLatin1", "()Z"⟩
theorem hc_js_isLatin1 : Cond.code y_js_isLatin1 prog_18_method_154_code 1 (some .boolean) ∈ q_tb := q_inT2 34 rfl rfl
theorem hi_js_isLatin1 : Cond.initialized y_js_isLatin1.cls ∈ q_tb := q_inT1 12 rfl rfl
theorem hn_js_isLatin1 : Cond.instanceMethod y_js_isLatin1 ∈ q_tb := q_inT2 32 rfl rfl
theorem hz_js_isLatin1 : Cond.selects y_js_isLatin1.cls y_js_isLatin1 y_js_isLatin1 ∈ q_tb := q_inT2 33 rfl rfl
theorem hy_js_isLatin1 : y_js_isLatin1.cls ≠ "java/lang/invoke/MethodHandle" ∧ y_js_isLatin1.cls ≠ "java/lang/invoke/VarHandle" ∧ (parseMethodDescriptor y_js_isLatin1.desc).map (fun d => d.parameters.length) = some 0 := by decide +kernel
def y_jt_charAt : MethodName := ⟨"java/lang/StringLatin1", "charAt", "([BI)C"⟩
theorem hc_jt_charAt : Cond.code y_jt_charAt prog_19_method_2_code 2 (some .char) ∈ q_tb := q_inT2 37 rfl rfl
theorem hi_jt_charAt : Cond.initialized y_jt_charAt.cls ∈ q_tb := q_inT1 13 rfl rfl
theorem hs_jt_charAt : Cond.static y_jt_charAt ∈ q_tb := q_inT2 36 rfl rfl
theorem hy_jt_charAt : y_jt_charAt.cls ≠ "java/lang/invoke/MethodHandle" ∧ y_jt_charAt.cls ≠ "java/lang/invoke/VarHandle" ∧ (parseMethodDescriptor y_jt_charAt.desc).map (fun d => d.parameters.length) = some 2 := by decide +kernel
def y_js_checkIndex : MethodName := ⟨"java/lang/String", "checkIndex", "(II)V"⟩
theorem hc_js_checkIndex : Cond.code y_js_checkIndex prog_18_method_155_code 2 none ∈ q_tb := q_inT2 40 rfl rfl
theorem hi_js_checkIndex : Cond.initialized y_js_checkIndex.cls ∈ q_tb := q_inT1 12 rfl rfl
theorem hs_js_checkIndex : Cond.static y_js_checkIndex ∈ q_tb := q_inT2 39 rfl rfl
theorem hy_js_checkIndex : y_js_checkIndex.cls ≠ "java/lang/invoke/MethodHandle" ∧ y_js_checkIndex.cls ≠ "java/lang/invoke/VarHandle" ∧ (parseMethodDescriptor y_js_checkIndex.desc).map (fun d => d.parameters.length) = some 2 := by decide +kernel
def y_jp_checkIndex : MethodName := ⟨"jdk/internal/util/Preconditions", "checkIndex", "(IILjava/util/function/BiFunction;)I"⟩
theorem hc_jp_checkIndex : Cond.code y_jp_checkIndex prog_22_method_11_code 3 (some .int) ∈ q_tb := q_inT2 45 rfl rfl
theorem hi_jp_checkIndex : Cond.initialized y_jp_checkIndex.cls ∈ q_tb := q_inT1 14 rfl rfl
theorem hs_jp_checkIndex : Cond.static y_jp_checkIndex ∈ q_tb := q_inT2 44 rfl rfl
theorem hy_jp_checkIndex : y_jp_checkIndex.cls ≠ "java/lang/invoke/MethodHandle" ∧ y_jp_checkIndex.cls ≠ "java/lang/invoke/VarHandle" ∧ (parseMethodDescriptor y_jp_checkIndex.desc).map (fun d => d.parameters.length) = some 3 := by decide +kernel
def y_text_begin : MethodName := ⟨"WhichSwitch$Text", "begin", "()V"⟩
theorem hc_text_begin : Cond.code y_text_begin prog_10_method_2_code 1 none ∈ q_tb := q_inT2 76 rfl rfl
theorem hi_text_begin : Cond.initialized y_text_begin.cls ∈ q_tb := q_inT1 5 rfl rfl
theorem hn_text_begin : Cond.instanceMethod y_text_begin ∈ q_tb := q_inT2 75 rfl rfl
theorem hz_text_begin : Cond.selects y_text_begin.cls y_text_begin y_text_begin ∈ q_tb := q_inP1 3 rfl
theorem hy_text_begin : y_text_begin.cls ≠ "java/lang/invoke/MethodHandle" ∧ y_text_begin.cls ≠ "java/lang/invoke/VarHandle" ∧ (parseMethodDescriptor y_text_begin.desc).map (fun d => d.parameters.length) = some 0 := by decide +kernel
def y_reader_advance : MethodName := ⟨"WhichSwitch$Reader", "advance", "()V"⟩
theorem hc_reader_advance : Cond.code y_reader_advance prog_7_method_16_code 1 none ∈ q_tb := q_inT2 80 rfl rfl
theorem hi_reader_advance : Cond.initialized y_reader_advance.cls ∈ q_tb := q_inT1 4 rfl rfl
theorem hn_reader_advance : Cond.instanceMethod y_reader_advance ∈ q_tb := q_inT2 79 rfl rfl
theorem hz_reader_advance : Cond.selects y_reader_advance.cls y_reader_advance y_reader_advance ∈ q_tb := q_inP1 4 rfl
theorem hy_reader_advance : y_reader_advance.cls ≠ "java/lang/invoke/MethodHandle" ∧ y_reader_advance.cls ≠ "java/lang/invoke/VarHandle" ∧ (parseMethodDescriptor y_reader_advance.desc).map (fun d => d.parameters.length) = some 0 := by decide +kernel
def y_reader_readPart : MethodName := ⟨"WhichSwitch$Reader", "readPart", "(I)Z"⟩
theorem hc_reader_readPart : Cond.code y_reader_readPart prog_7_method_6_code 2 (some .boolean) ∈ q_tb := q_inT2 168 rfl rfl
theorem hi_reader_readPart : Cond.initialized y_reader_readPart.cls ∈ q_tb := q_inT1 4 rfl rfl
theorem hn_reader_readPart : Cond.instanceMethod y_reader_readPart ∈ q_tb := q_inT2 167 rfl rfl
theorem hz_reader_readPart : Cond.selects y_reader_readPart.cls y_reader_readPart y_reader_readPart ∈ q_tb := q_inP1 10 rfl
theorem hy_reader_readPart : y_reader_readPart.cls ≠ "java/lang/invoke/MethodHandle" ∧ y_reader_readPart.cls ≠ "java/lang/invoke/VarHandle" ∧ (parseMethodDescriptor y_reader_readPart.desc).map (fun d => d.parameters.length) = some 1 := by decide +kernel
def y_reader_isLetter : MethodName := ⟨"WhichSwitch$Reader", "isLetter", "(I)Z"⟩
theorem hc_reader_isLetter : Cond.code y_reader_isLetter prog_7_method_20_code 2 (some .boolean) ∈ q_tb := q_inT2 84 rfl rfl
theorem hi_reader_isLetter : Cond.initialized y_reader_isLetter.cls ∈ q_tb := q_inT1 4 rfl rfl
theorem hn_reader_isLetter : Cond.instanceMethod y_reader_isLetter ∈ q_tb := q_inT2 83 rfl rfl
theorem hz_reader_isLetter : Cond.selects y_reader_isLetter.cls y_reader_isLetter y_reader_isLetter ∈ q_tb := q_inP1 5 rfl
theorem hy_reader_isLetter : y_reader_isLetter.cls ≠ "java/lang/invoke/MethodHandle" ∧ y_reader_isLetter.cls ≠ "java/lang/invoke/VarHandle" ∧ (parseMethodDescriptor y_reader_isLetter.desc).map (fun d => d.parameters.length) = some 1 := by decide +kernel
def y_reader_advanceWord : MethodName := ⟨"WhichSwitch$Reader", "advanceWord", "()V"⟩
theorem hc_reader_advanceWord : Cond.code y_reader_advanceWord prog_7_method_17_code 4 none ∈ q_tb := q_inT2 91 rfl rfl
theorem hi_reader_advanceWord : Cond.initialized y_reader_advanceWord.cls ∈ q_tb := q_inT1 4 rfl rfl
theorem hn_reader_advanceWord : Cond.instanceMethod y_reader_advanceWord ∈ q_tb := q_inT2 90 rfl rfl
theorem hz_reader_advanceWord : Cond.selects y_reader_advanceWord.cls y_reader_advanceWord y_reader_advanceWord ∈ q_tb := q_inP1 6 rfl
theorem hy_reader_advanceWord : y_reader_advanceWord.cls ≠ "java/lang/invoke/MethodHandle" ∧ y_reader_advanceWord.cls ≠ "java/lang/invoke/VarHandle" ∧ (parseMethodDescriptor y_reader_advanceWord.desc).map (fun d => d.parameters.length) = some 0 := by decide +kernel
def y_reader_isDigit : MethodName := ⟨"WhichSwitch$Reader", "isDigit", "(I)Z"⟩
theorem hc_reader_isDigit : Cond.code y_reader_isDigit prog_7_method_21_code 2 (some .boolean) ∈ q_tb := q_inT2 100 rfl rfl
theorem hi_reader_isDigit : Cond.initialized y_reader_isDigit.cls ∈ q_tb := q_inT1 4 rfl rfl
theorem hn_reader_isDigit : Cond.instanceMethod y_reader_isDigit ∈ q_tb := q_inT2 99 rfl rfl
theorem hz_reader_isDigit : Cond.selects y_reader_isDigit.cls y_reader_isDigit y_reader_isDigit ∈ q_tb := q_inP1 8 rfl
theorem hy_reader_isDigit : y_reader_isDigit.cls ≠ "java/lang/invoke/MethodHandle" ∧ y_reader_isDigit.cls ≠ "java/lang/invoke/VarHandle" ∧ (parseMethodDescriptor y_reader_isDigit.desc).map (fun d => d.parameters.length) = some 1 := by decide +kernel
def y_reader_advanceNumber : MethodName := ⟨"WhichSwitch$Reader", "advanceNumber", "()V"⟩
theorem hc_reader_advanceNumber : Cond.code y_reader_advanceNumber prog_7_method_18_code 1 none ∈ q_tb := q_inT2 104 rfl rfl
theorem hi_reader_advanceNumber : Cond.initialized y_reader_advanceNumber.cls ∈ q_tb := q_inT1 4 rfl rfl
theorem hn_reader_advanceNumber : Cond.instanceMethod y_reader_advanceNumber ∈ q_tb := q_inT2 103 rfl rfl
theorem hz_reader_advanceNumber : Cond.selects y_reader_advanceNumber.cls y_reader_advanceNumber y_reader_advanceNumber ∈ q_tb := q_inP1 9 rfl
theorem hy_reader_advanceNumber : y_reader_advanceNumber.cls ≠ "java/lang/invoke/MethodHandle" ∧ y_reader_advanceNumber.cls ≠ "java/lang/invoke/VarHandle" ∧ (parseMethodDescriptor y_reader_advanceNumber.desc).map (fun d => d.parameters.length) = some 0 := by decide +kernel
def y_js_indexOf0 : MethodName := ⟨"java/lang/String", "indexOf", "(I)I"⟩
theorem hc_js_indexOf0 : Cond.code y_js_indexOf0 prog_18_method_79_code 2 (some .int) ∈ q_tb := q_inT2 109 rfl rfl
theorem hi_js_indexOf0 : Cond.initialized y_js_indexOf0.cls ∈ q_tb := q_inT1 12 rfl rfl
theorem hn_js_indexOf0 : Cond.instanceMethod y_js_indexOf0 ∈ q_tb := q_inT2 107 rfl rfl
theorem hz_js_indexOf0 : Cond.selects y_js_indexOf0.cls y_js_indexOf0 y_js_indexOf0 ∈ q_tb := q_inT2 108 rfl rfl
theorem hy_js_indexOf0 : y_js_indexOf0.cls ≠ "java/lang/invoke/MethodHandle" ∧ y_js_indexOf0.cls ≠ "java/lang/invoke/VarHandle" ∧ (parseMethodDescriptor y_js_indexOf0.desc).map (fun d => d.parameters.length) = some 1 := by decide +kernel
def y_w_within : MethodName := ⟨"WhichSwitch", "within", "(III)Z"⟩
theorem hc_w_within : Cond.code y_w_within prog_1_method_93_code 3 (some .boolean) ∈ q_tb := q_inT2 87 rfl rfl
theorem hi_w_within : Cond.initialized y_w_within.cls ∈ q_tb := q_inT1 1 rfl rfl
theorem hs_w_within : Cond.static y_w_within ∈ q_tb := q_inT2 86 rfl rfl
theorem hy_w_within : y_w_within.cls ≠ "java/lang/invoke/MethodHandle" ∧ y_w_within.cls ≠ "java/lang/invoke/VarHandle" ∧ (parseMethodDescriptor y_w_within.desc).map (fun d => d.parameters.length) = some 3 := by decide +kernel
def y_reader_isWord : MethodName := ⟨"WhichSwitch$Reader", "isWord", "(II)Z"⟩
theorem hc_reader_isWord : Cond.code y_reader_isWord prog_7_method_19_code 4 (some .boolean) ∈ q_tb := q_inT2 96 rfl rfl
theorem hi_reader_isWord : Cond.initialized y_reader_isWord.cls ∈ q_tb := q_inT1 4 rfl rfl
theorem hn_reader_isWord : Cond.instanceMethod y_reader_isWord ∈ q_tb := q_inT2 95 rfl rfl
theorem hz_reader_isWord : Cond.selects y_reader_isWord.cls y_reader_isWord y_reader_isWord ∈ q_tb := q_inP1 7 rfl
theorem hy_reader_isWord : y_reader_isWord.cls ≠ "java/lang/invoke/MethodHandle" ∧ y_reader_isWord.cls ≠ "java/lang/invoke/VarHandle" ∧ (parseMethodDescriptor y_reader_isWord.desc).map (fun d => d.parameters.length) = some 2 := by decide +kernel
def y_js_indexOf1 : MethodName := ⟨"java/lang/String", "indexOf", "(II)I"⟩
theorem hc_js_indexOf1 : Cond.code y_js_indexOf1 prog_18_method_80_code 3 (some .int) ∈ q_tb := q_inT2 113 rfl rfl
theorem hi_js_indexOf1 : Cond.initialized y_js_indexOf1.cls ∈ q_tb := q_inT1 12 rfl rfl
theorem hn_js_indexOf1 : Cond.instanceMethod y_js_indexOf1 ∈ q_tb := q_inT2 111 rfl rfl
theorem hz_js_indexOf1 : Cond.selects y_js_indexOf1.cls y_js_indexOf1 y_js_indexOf1 ∈ q_tb := q_inT2 112 rfl rfl
theorem hy_js_indexOf1 : y_js_indexOf1.cls ≠ "java/lang/invoke/MethodHandle" ∧ y_js_indexOf1.cls ≠ "java/lang/invoke/VarHandle" ∧ (parseMethodDescriptor y_js_indexOf1.desc).map (fun d => d.parameters.length) = some 2 := by decide +kernel
def y_jt_indexOf : MethodName := ⟨"java/lang/StringLatin1", "indexOf", "([BIII)I"⟩
theorem hc_jt_indexOf : Cond.code y_jt_indexOf prog_19_method_22_code 4 (some .int) ∈ q_tb := q_inT2 117 rfl rfl
theorem hi_jt_indexOf : Cond.initialized y_jt_indexOf.cls ∈ q_tb := q_inT1 13 rfl rfl
theorem hs_jt_indexOf : Cond.static y_jt_indexOf ∈ q_tb := q_inT2 116 rfl rfl
theorem hy_jt_indexOf : y_jt_indexOf.cls ≠ "java/lang/invoke/MethodHandle" ∧ y_jt_indexOf.cls ≠ "java/lang/invoke/VarHandle" ∧ (parseMethodDescriptor y_jt_indexOf.desc).map (fun d => d.parameters.length) = some 4 := by decide +kernel
def y_jt_canEncode : MethodName := ⟨"java/lang/StringLatin1", "canEncode", "(I)Z"⟩
theorem hc_jt_canEncode : Cond.code y_jt_canEncode prog_19_method_4_code 1 (some .boolean) ∈ q_tb := q_inT2 120 rfl rfl
theorem hi_jt_canEncode : Cond.initialized y_jt_canEncode.cls ∈ q_tb := q_inT1 13 rfl rfl
theorem hs_jt_canEncode : Cond.static y_jt_canEncode ∈ q_tb := q_inT2 119 rfl rfl
theorem hy_jt_canEncode : y_jt_canEncode.cls ≠ "java/lang/invoke/MethodHandle" ∧ y_jt_canEncode.cls ≠ "java/lang/invoke/VarHandle" ∧ (parseMethodDescriptor y_jt_canEncode.desc).map (fun d => d.parameters.length) = some 1 := by decide +kernel
def y_jt_indexOfChar : MethodName := ⟨"java/lang/StringLatin1", "indexOfChar", "([BIII)I"⟩
theorem hc_jt_indexOfChar : Cond.code y_jt_indexOfChar prog_19_method_23_code 6 (some .int) ∈ q_tb := q_inT2 129 rfl rfl
theorem hi_jt_indexOfChar : Cond.initialized y_jt_indexOfChar.cls ∈ q_tb := q_inT1 13 rfl rfl
theorem hs_jt_indexOfChar : Cond.static y_jt_indexOfChar ∈ q_tb := q_inT2 128 rfl rfl
theorem hy_jt_indexOfChar : y_jt_indexOfChar.cls ≠ "java/lang/invoke/MethodHandle" ∧ y_jt_indexOfChar.cls ≠ "java/lang/invoke/VarHandle" ∧ (parseMethodDescriptor y_jt_indexOfChar.desc).map (fun d => d.parameters.length) = some 4 := by decide +kernel
def y_reader_readOrs : MethodName := ⟨"WhichSwitch$Reader", "readOrs", "(I)Z"⟩
theorem hc_reader_readOrs : Cond.code y_reader_readOrs prog_7_method_7_code 3 (some .boolean) ∈ q_tb := q_inT2 172 rfl rfl
theorem hi_reader_readOrs : Cond.initialized y_reader_readOrs.cls ∈ q_tb := q_inT1 4 rfl rfl
theorem hn_reader_readOrs : Cond.instanceMethod y_reader_readOrs ∈ q_tb := q_inT2 171 rfl rfl
theorem hz_reader_readOrs : Cond.selects y_reader_readOrs.cls y_reader_readOrs y_reader_readOrs ∈ q_tb := q_inP1 11 rfl
theorem hy_reader_readOrs : y_reader_readOrs.cls ≠ "java/lang/invoke/MethodHandle" ∧ y_reader_readOrs.cls ≠ "java/lang/invoke/VarHandle" ∧ (parseMethodDescriptor y_reader_readOrs.desc).map (fun d => d.parameters.length) = some 1 := by decide +kernel
def y_text_endPart : MethodName := ⟨"WhichSwitch$Text", "endPart", "()V"⟩
theorem hc_text_endPart : Cond.code y_text_endPart prog_10_method_4_code 1 none ∈ q_tb := q_inT2 212 rfl rfl
theorem hi_text_endPart : Cond.initialized y_text_endPart.cls ∈ q_tb := q_inT1 5 rfl rfl
theorem hn_text_endPart : Cond.instanceMethod y_text_endPart ∈ q_tb := q_inT2 211 rfl rfl
theorem hz_text_endPart : Cond.selects y_text_endPart.cls y_text_endPart y_text_endPart ∈ q_tb := q_inP2 5 rfl
theorem hy_text_endPart : y_text_endPart.cls ≠ "java/lang/invoke/MethodHandle" ∧ y_text_endPart.cls ≠ "java/lang/invoke/VarHandle" ∧ (parseMethodDescriptor y_text_endPart.desc).map (fun d => d.parameters.length) = some 0 := by decide +kernel
def y_reader_readAnds : MethodName := ⟨"WhichSwitch$Reader", "readAnds", "(I)Z"⟩
theorem hc_reader_readAnds : Cond.code y_reader_readAnds prog_7_method_8_code 3 (some .boolean) ∈ q_tb := q_inT2 176 rfl rfl
theorem hi_reader_readAnds : Cond.initialized y_reader_readAnds.cls ∈ q_tb := q_inT1 4 rfl rfl
theorem hn_reader_readAnds : Cond.instanceMethod y_reader_readAnds ∈ q_tb := q_inT2 175 rfl rfl
theorem hz_reader_readAnds : Cond.selects y_reader_readAnds.cls y_reader_readAnds y_reader_readAnds ∈ q_tb := q_inP1 12 rfl
theorem hy_reader_readAnds : y_reader_readAnds.cls ≠ "java/lang/invoke/MethodHandle" ∧ y_reader_readAnds.cls ≠ "java/lang/invoke/VarHandle" ∧ (parseMethodDescriptor y_reader_readAnds.desc).map (fun d => d.parameters.length) = some 1 := by decide +kernel
def y_text_add : MethodName := ⟨"WhichSwitch$Text", "add", "(I)V"⟩
theorem hc_text_add : Cond.code y_text_add prog_10_method_3_code 2 none ∈ q_tb := q_inT2 200 rfl rfl
theorem hi_text_add : Cond.initialized y_text_add.cls ∈ q_tb := q_inT1 5 rfl rfl
theorem hn_text_add : Cond.instanceMethod y_text_add ∈ q_tb := q_inT2 199 rfl rfl
theorem hz_text_add : Cond.selects y_text_add.cls y_text_add y_text_add ∈ q_tb := q_inP2 2 rfl
theorem hy_text_add : y_text_add.cls ≠ "java/lang/invoke/MethodHandle" ∧ y_text_add.cls ≠ "java/lang/invoke/VarHandle" ∧ (parseMethodDescriptor y_text_add.desc).map (fun d => d.parameters.length) = some 1 := by decide +kernel
def y_reader_readNot : MethodName := ⟨"WhichSwitch$Reader", "readNot", "(I)Z"⟩
theorem hc_reader_readNot : Cond.code y_reader_readNot prog_7_method_9_code 2 (some .boolean) ∈ q_tb := q_inT2 180 rfl rfl
theorem hi_reader_readNot : Cond.initialized y_reader_readNot.cls ∈ q_tb := q_inT1 4 rfl rfl
theorem hn_reader_readNot : Cond.instanceMethod y_reader_readNot ∈ q_tb := q_inT2 179 rfl rfl
theorem hz_reader_readNot : Cond.selects y_reader_readNot.cls y_reader_readNot y_reader_readNot ∈ q_tb := q_inP1 13 rfl
theorem hy_reader_readNot : y_reader_readNot.cls ≠ "java/lang/invoke/MethodHandle" ∧ y_reader_readNot.cls ≠ "java/lang/invoke/VarHandle" ∧ (parseMethodDescriptor y_reader_readNot.desc).map (fun d => d.parameters.length) = some 1 := by decide +kernel
def y_reader_readComparison : MethodName := ⟨"WhichSwitch$Reader", "readComparison", "(I)Z"⟩
theorem hc_reader_readComparison : Cond.code y_reader_readComparison prog_7_method_10_code 3 (some .boolean) ∈ q_tb := q_inT2 184 rfl rfl
theorem hi_reader_readComparison : Cond.initialized y_reader_readComparison.cls ∈ q_tb := q_inT1 4 rfl rfl
theorem hn_reader_readComparison : Cond.instanceMethod y_reader_readComparison ∈ q_tb := q_inT2 183 rfl rfl
theorem hz_reader_readComparison : Cond.selects y_reader_readComparison.cls y_reader_readComparison y_reader_readComparison ∈ q_tb := q_inP1 14 rfl
theorem hy_reader_readComparison : y_reader_readComparison.cls ≠ "java/lang/invoke/MethodHandle" ∧ y_reader_readComparison.cls ≠ "java/lang/invoke/VarHandle" ∧ (parseMethodDescriptor y_reader_readComparison.desc).map (fun d => d.parameters.length) = some 1 := by decide +kernel
def y_reader_readSum : MethodName := ⟨"WhichSwitch$Reader", "readSum", "(I)Z"⟩
theorem hc_reader_readSum : Cond.code y_reader_readSum prog_7_method_11_code 4 (some .boolean) ∈ q_tb := q_inT2 188 rfl rfl
theorem hi_reader_readSum : Cond.initialized y_reader_readSum.cls ∈ q_tb := q_inT1 4 rfl rfl
theorem hn_reader_readSum : Cond.instanceMethod y_reader_readSum ∈ q_tb := q_inT2 187 rfl rfl
theorem hz_reader_readSum : Cond.selects y_reader_readSum.cls y_reader_readSum y_reader_readSum ∈ q_tb := q_inP1 15 rfl
theorem hy_reader_readSum : y_reader_readSum.cls ≠ "java/lang/invoke/MethodHandle" ∧ y_reader_readSum.cls ≠ "java/lang/invoke/VarHandle" ∧ (parseMethodDescriptor y_reader_readSum.desc).map (fun d => d.parameters.length) = some 1 := by decide +kernel
def y_reader_readTerm : MethodName := ⟨"WhichSwitch$Reader", "readTerm", "(I)Z"⟩
theorem hc_reader_readTerm : Cond.code y_reader_readTerm prog_7_method_12_code 3 (some .boolean) ∈ q_tb := q_inT2 192 rfl rfl
theorem hi_reader_readTerm : Cond.initialized y_reader_readTerm.cls ∈ q_tb := q_inT1 4 rfl rfl
theorem hn_reader_readTerm : Cond.instanceMethod y_reader_readTerm ∈ q_tb := q_inT2 191 rfl rfl
theorem hz_reader_readTerm : Cond.selects y_reader_readTerm.cls y_reader_readTerm y_reader_readTerm ∈ q_tb := q_inP2 0 rfl
theorem hy_reader_readTerm : y_reader_readTerm.cls ≠ "java/lang/invoke/MethodHandle" ∧ y_reader_readTerm.cls ≠ "java/lang/invoke/VarHandle" ∧ (parseMethodDescriptor y_reader_readTerm.desc).map (fun d => d.parameters.length) = some 1 := by decide +kernel
def y_reader_readOne : MethodName := ⟨"WhichSwitch$Reader", "readOne", "(I)Z"⟩
theorem hc_reader_readOne : Cond.code y_reader_readOne prog_7_method_13_code 3 (some .boolean) ∈ q_tb := q_inT2 196 rfl rfl
theorem hi_reader_readOne : Cond.initialized y_reader_readOne.cls ∈ q_tb := q_inT1 4 rfl rfl
theorem hn_reader_readOne : Cond.instanceMethod y_reader_readOne ∈ q_tb := q_inT2 195 rfl rfl
theorem hz_reader_readOne : Cond.selects y_reader_readOne.cls y_reader_readOne y_reader_readOne ∈ q_tb := q_inP2 1 rfl
theorem hy_reader_readOne : y_reader_readOne.cls ≠ "java/lang/invoke/MethodHandle" ∧ y_reader_readOne.cls ≠ "java/lang/invoke/VarHandle" ∧ (parseMethodDescriptor y_reader_readOne.desc).map (fun d => d.parameters.length) = some 1 := by decide +kernel
def y_reader_readNegated : MethodName := ⟨"WhichSwitch$Reader", "readNegated", "(I)Z"⟩
theorem hc_reader_readNegated : Cond.code y_reader_readNegated prog_7_method_14_code 2 (some .boolean) ∈ q_tb := q_inT2 204 rfl rfl
theorem hi_reader_readNegated : Cond.initialized y_reader_readNegated.cls ∈ q_tb := q_inT1 4 rfl rfl
theorem hn_reader_readNegated : Cond.instanceMethod y_reader_readNegated ∈ q_tb := q_inT2 203 rfl rfl
theorem hz_reader_readNegated : Cond.selects y_reader_readNegated.cls y_reader_readNegated y_reader_readNegated ∈ q_tb := q_inP2 3 rfl
theorem hy_reader_readNegated : y_reader_readNegated.cls ≠ "java/lang/invoke/MethodHandle" ∧ y_reader_readNegated.cls ≠ "java/lang/invoke/VarHandle" ∧ (parseMethodDescriptor y_reader_readNegated.desc).map (fun d => d.parameters.length) = some 1 := by decide +kernel
def y_reader_readBracketed : MethodName := ⟨"WhichSwitch$Reader", "readBracketed", "(I)Z"⟩
theorem hc_reader_readBracketed : Cond.code y_reader_readBracketed prog_7_method_15_code 2 (some .boolean) ∈ q_tb := q_inT2 208 rfl rfl
theorem hi_reader_readBracketed : Cond.initialized y_reader_readBracketed.cls ∈ q_tb := q_inT1 4 rfl rfl
theorem hn_reader_readBracketed : Cond.instanceMethod y_reader_readBracketed ∈ q_tb := q_inT2 207 rfl rfl
theorem hz_reader_readBracketed : Cond.selects y_reader_readBracketed.cls y_reader_readBracketed y_reader_readBracketed ∈ q_tb := q_inP2 4 rfl
theorem hy_reader_readBracketed : y_reader_readBracketed.cls ≠ "java/lang/invoke/MethodHandle" ∧ y_reader_readBracketed.cls ≠ "java/lang/invoke/VarHandle" ∧ (parseMethodDescriptor y_reader_readBracketed.desc).map (fun d => d.parameters.length) = some 1 := by decide +kernel
def y_w_mostOf : MethodName := ⟨"WhichSwitch", "mostOf", "(I)I"⟩
theorem hc_w_mostOf : Cond.code y_w_mostOf prog_1_method_4_code 2 (some .int) ∈ q_tb := q_inT3 55 rfl rfl
theorem hi_w_mostOf : Cond.initialized y_w_mostOf.cls ∈ q_tb := q_inT1 1 rfl rfl
theorem hn_w_mostOf : Cond.instanceMethod y_w_mostOf ∈ q_tb := q_inT3 54 rfl rfl
theorem hz_w_mostOf : Cond.selects y_w_mostOf.cls y_w_mostOf y_w_mostOf ∈ q_tb := q_inP2 8 rfl
theorem hy_w_mostOf : y_w_mostOf.cls ≠ "java/lang/invoke/MethodHandle" ∧ y_w_mostOf.cls ≠ "java/lang/invoke/VarHandle" ∧ (parseMethodDescriptor y_w_mostOf.desc).map (fun d => d.parameters.length) = some 1 := by decide +kernel
def y_w_bitsBelow : MethodName := ⟨"WhichSwitch", "bitsBelow", "(I)I"⟩
theorem hc_w_bitsBelow : Cond.code y_w_bitsBelow prog_1_method_94_code 1 (some .int) ∈ q_tb := q_inT3 58 rfl rfl
theorem hi_w_bitsBelow : Cond.initialized y_w_bitsBelow.cls ∈ q_tb := q_inT1 1 rfl rfl
theorem hs_w_bitsBelow : Cond.static y_w_bitsBelow ∈ q_tb := q_inT3 57 rfl rfl
theorem hy_w_bitsBelow : y_w_bitsBelow.cls ≠ "java/lang/invoke/MethodHandle" ∧ y_w_bitsBelow.cls ≠ "java/lang/invoke/VarHandle" ∧ (parseMethodDescriptor y_w_bitsBelow.desc).map (fun d => d.parameters.length) = some 1 := by decide +kernel
def y_w_isWhere : MethodName := ⟨"WhichSwitch", "isWhere", "(I)Z"⟩
theorem hc_w_isWhere : Cond.code y_w_isWhere prog_1_method_7_code 1 (some .boolean) ∈ q_tb := q_inT3 69 rfl rfl
theorem hi_w_isWhere : Cond.initialized y_w_isWhere.cls ∈ q_tb := q_inT1 1 rfl rfl
theorem hs_w_isWhere : Cond.static y_w_isWhere ∈ q_tb := q_inT3 68 rfl rfl
theorem hy_w_isWhere : y_w_isWhere.cls ≠ "java/lang/invoke/MethodHandle" ∧ y_w_isWhere.cls ≠ "java/lang/invoke/VarHandle" ∧ (parseMethodDescriptor y_w_isWhere.desc).map (fun d => d.parameters.length) = some 1 := by decide +kernel
def y_lamp_become : MethodName := ⟨"WhichSwitch$Lamp", "become", "(IIII)V"⟩
theorem hc_lamp_become : Cond.code y_lamp_become prog_4_method_2_code 5 none ∈ q_tb := q_inT3 73 rfl rfl
theorem hi_lamp_become : Cond.initialized y_lamp_become.cls ∈ q_tb := q_inT1 9 rfl rfl
theorem hn_lamp_become : Cond.instanceMethod y_lamp_become ∈ q_tb := q_inT3 72 rfl rfl
theorem hz_lamp_become : Cond.selects y_lamp_become.cls y_lamp_become y_lamp_become ∈ q_tb := q_inP2 9 rfl
theorem hy_lamp_become : y_lamp_become.cls ≠ "java/lang/invoke/MethodHandle" ∧ y_lamp_become.cls ≠ "java/lang/invoke/VarHandle" ∧ (parseMethodDescriptor y_lamp_become.desc).map (fun d => d.parameters.length) = some 4 := by decide +kernel
def y_w_isLamp : MethodName := ⟨"WhichSwitch", "isLamp", "(I)Z"⟩
theorem hc_w_isLamp : Cond.code y_w_isLamp prog_1_method_99_code 2 (some .boolean) ∈ q_tb := q_inT3 81 rfl rfl
theorem hi_w_isLamp : Cond.initialized y_w_isLamp.cls ∈ q_tb := q_inT1 1 rfl rfl
theorem hn_w_isLamp : Cond.instanceMethod y_w_isLamp ∈ q_tb := q_inT3 80 rfl rfl
theorem hz_w_isLamp : Cond.selects y_w_isLamp.cls y_w_isLamp y_w_isLamp ∈ q_tb := q_inP2 10 rfl
theorem hy_w_isLamp : y_w_isLamp.cls ≠ "java/lang/invoke/MethodHandle" ∧ y_w_isLamp.cls ≠ "java/lang/invoke/VarHandle" ∧ (parseMethodDescriptor y_w_isLamp.desc).map (fun d => d.parameters.length) = some 1 := by decide +kernel
def y_w_wiringRefusal : MethodName := ⟨"WhichSwitch", "wiringRefusal", "(I)I"⟩
theorem hc_w_wiringRefusal : Cond.code y_w_wiringRefusal prog_1_method_15_code 3 (some .int) ∈ q_tb := q_inT3 102 rfl rfl
theorem hi_w_wiringRefusal : Cond.initialized y_w_wiringRefusal.cls ∈ q_tb := q_inT1 1 rfl rfl
theorem hn_w_wiringRefusal : Cond.instanceMethod y_w_wiringRefusal ∈ q_tb := q_inT3 101 rfl rfl
theorem hz_w_wiringRefusal : Cond.selects y_w_wiringRefusal.cls y_w_wiringRefusal y_w_wiringRefusal ∈ q_tb := q_inP2 11 rfl
theorem hy_w_wiringRefusal : y_w_wiringRefusal.cls ≠ "java/lang/invoke/MethodHandle" ∧ y_w_wiringRefusal.cls ≠ "java/lang/invoke/VarHandle" ∧ (parseMethodDescriptor y_w_wiringRefusal.desc).map (fun d => d.parameters.length) = some 1 := by decide +kernel
def y_wiring_become : MethodName := ⟨"WhichSwitch$Wiring", "become", "(LWhichSwitch$Sheet;I)V"⟩
theorem hc_wiring_become : Cond.code y_wiring_become prog_11_method_2_code 5 none ∈ q_tb := q_inT3 118 rfl rfl
theorem hi_wiring_become : Cond.initialized y_wiring_become.cls ∈ q_tb := q_inT1 10 rfl rfl
theorem hn_wiring_become : Cond.instanceMethod y_wiring_become ∈ q_tb := q_inT3 117 rfl rfl
theorem hz_wiring_become : Cond.selects y_wiring_become.cls y_wiring_become y_wiring_become ∈ q_tb := q_inP2 14 rfl
theorem hy_wiring_become : y_wiring_become.cls ≠ "java/lang/invoke/MethodHandle" ∧ y_wiring_become.cls ≠ "java/lang/invoke/VarHandle" ∧ (parseMethodDescriptor y_wiring_become.desc).map (fun d => d.parameters.length) = some 2 := by decide +kernel
def y_w_isSheet : MethodName := ⟨"WhichSwitch", "isSheet", "(I)Z"⟩
theorem hc_w_isSheet : Cond.code y_w_isSheet prog_1_method_104_code 1 (some .boolean) ∈ q_tb := q_inT3 105 rfl rfl
theorem hi_w_isSheet : Cond.initialized y_w_isSheet.cls ∈ q_tb := q_inT1 1 rfl rfl
theorem hs_w_isSheet : Cond.static y_w_isSheet ∈ q_tb := q_inT3 104 rfl rfl
theorem hy_w_isSheet : y_w_isSheet.cls ≠ "java/lang/invoke/MethodHandle" ∧ y_w_isSheet.cls ≠ "java/lang/invoke/VarHandle" ∧ (parseMethodDescriptor y_w_isSheet.desc).map (fun d => d.parameters.length) = some 1 := by decide +kernel
def y_sheet_isMissing : MethodName := ⟨"WhichSwitch$Sheet", "isMissing", "()Z"⟩
theorem hc_sheet_isMissing : Cond.code y_sheet_isMissing prog_8_method_3_code 1 (some .boolean) ∈ q_tb := q_inT3 109 rfl rfl
theorem hi_sheet_isMissing : Cond.initialized y_sheet_isMissing.cls ∈ q_tb := q_inT1 11 rfl rfl
theorem hn_sheet_isMissing : Cond.instanceMethod y_sheet_isMissing ∈ q_tb := q_inT3 108 rfl rfl
theorem hz_sheet_isMissing : Cond.selects y_sheet_isMissing.cls y_sheet_isMissing y_sheet_isMissing ∈ q_tb := q_inP2 12 rfl
theorem hy_sheet_isMissing : y_sheet_isMissing.cls ≠ "java/lang/invoke/MethodHandle" ∧ y_sheet_isMissing.cls ≠ "java/lang/invoke/VarHandle" ∧ (parseMethodDescriptor y_sheet_isMissing.desc).map (fun d => d.parameters.length) = some 0 := by decide +kernel
def y_sheet_isWithin : MethodName := ⟨"WhichSwitch$Sheet", "isWithin", "(II)Z"⟩
theorem hc_sheet_isWithin : Cond.code y_sheet_isWithin prog_8_method_6_code 4 (some .boolean) ∈ q_tb := q_inT3 113 rfl rfl
theorem hi_sheet_isWithin : Cond.initialized y_sheet_isWithin.cls ∈ q_tb := q_inT1 11 rfl rfl
theorem hn_sheet_isWithin : Cond.instanceMethod y_sheet_isWithin ∈ q_tb := q_inT3 112 rfl rfl
theorem hz_sheet_isWithin : Cond.selects y_sheet_isWithin.cls y_sheet_isWithin y_sheet_isWithin ∈ q_tb := q_inP2 13 rfl
theorem hy_sheet_isWithin : y_sheet_isWithin.cls ≠ "java/lang/invoke/MethodHandle" ∧ y_sheet_isWithin.cls ≠ "java/lang/invoke/VarHandle" ∧ (parseMethodDescriptor y_sheet_isWithin.desc).map (fun d => d.parameters.length) = some 2 := by decide +kernel
def y_w_isHouse : MethodName := ⟨"WhichSwitch", "isHouse", "(I)Z"⟩
theorem hc_w_isHouse : Cond.code y_w_isHouse prog_1_method_100_code 2 (some .boolean) ∈ q_tb := q_inT3 127 rfl rfl
theorem hi_w_isHouse : Cond.initialized y_w_isHouse.cls ∈ q_tb := q_inT1 1 rfl rfl
theorem hn_w_isHouse : Cond.instanceMethod y_w_isHouse ∈ q_tb := q_inT3 126 rfl rfl
theorem hz_w_isHouse : Cond.selects y_w_isHouse.cls y_w_isHouse y_w_isHouse ∈ q_tb := q_inP2 15 rfl
theorem hy_w_isHouse : y_w_isHouse.cls ≠ "java/lang/invoke/MethodHandle" ∧ y_w_isHouse.cls ≠ "java/lang/invoke/VarHandle" ∧ (parseMethodDescriptor y_w_isHouse.desc).map (fun d => d.parameters.length) = some 1 := by decide +kernel
def y_w_litNow : MethodName := ⟨"WhichSwitch", "litNow", "(I)I"⟩
theorem hc_w_litNow : Cond.code y_w_litNow prog_1_method_23_code 2 (some .int) ∈ q_tb := q_inT3 135 rfl rfl
theorem hi_w_litNow : Cond.initialized y_w_litNow.cls ∈ q_tb := q_inT1 1 rfl rfl
theorem hn_w_litNow : Cond.instanceMethod y_w_litNow ∈ q_tb := q_inT3 134 rfl rfl
theorem hz_w_litNow : Cond.selects y_w_litNow.cls y_w_litNow y_w_litNow ∈ q_tb := q_inP3 0 rfl
theorem hy_w_litNow : y_w_litNow.cls ≠ "java/lang/invoke/MethodHandle" ∧ y_w_litNow.cls ≠ "java/lang/invoke/VarHandle" ∧ (parseMethodDescriptor y_w_litNow.desc).map (fun d => d.parameters.length) = some 1 := by decide +kernel
def y_w_fedLamps : MethodName := ⟨"WhichSwitch", "fedLamps", "(II)I"⟩
theorem hc_w_fedLamps : Cond.code y_w_fedLamps prog_1_method_22_code 6 (some .int) ∈ q_tb := q_inT3 139 rfl rfl
theorem hi_w_fedLamps : Cond.initialized y_w_fedLamps.cls ∈ q_tb := q_inT1 1 rfl rfl
theorem hn_w_fedLamps : Cond.instanceMethod y_w_fedLamps ∈ q_tb := q_inT3 138 rfl rfl
theorem hz_w_fedLamps : Cond.selects y_w_fedLamps.cls y_w_fedLamps y_w_fedLamps ∈ q_tb := q_inP3 1 rfl
theorem hy_w_fedLamps : y_w_fedLamps.cls ≠ "java/lang/invoke/MethodHandle" ∧ y_w_fedLamps.cls ≠ "java/lang/invoke/VarHandle" ∧ (parseMethodDescriptor y_w_fedLamps.desc).map (fun d => d.parameters.length) = some 2 := by decide +kernel
def y_w_lampsOn : MethodName := ⟨"WhichSwitch", "lampsOn", "(II)I"⟩
theorem hc_w_lampsOn : Cond.code y_w_lampsOn prog_1_method_21_code 5 (some .int) ∈ q_tb := q_inT3 146 rfl rfl
theorem hi_w_lampsOn : Cond.initialized y_w_lampsOn.cls ∈ q_tb := q_inT1 1 rfl rfl
theorem hn_w_lampsOn : Cond.instanceMethod y_w_lampsOn ∈ q_tb := q_inT3 145 rfl rfl
theorem hz_w_lampsOn : Cond.selects y_w_lampsOn.cls y_w_lampsOn y_w_lampsOn ∈ q_tb := q_inP3 2 rfl
theorem hy_w_lampsOn : y_w_lampsOn.cls ≠ "java/lang/invoke/MethodHandle" ∧ y_w_lampsOn.cls ≠ "java/lang/invoke/VarHandle" ∧ (parseMethodDescriptor y_w_lampsOn.desc).map (fun d => d.parameters.length) = some 2 := by decide +kernel
def y_w_has : MethodName := ⟨"WhichSwitch", "has", "(II)Z"⟩
theorem hc_w_has : Cond.code y_w_has prog_1_method_95_code 2 (some .boolean) ∈ q_tb := q_inT3 142 rfl rfl
theorem hi_w_has : Cond.initialized y_w_has.cls ∈ q_tb := q_inT1 1 rfl rfl
theorem hs_w_has : Cond.static y_w_has ∈ q_tb := q_inT3 141 rfl rfl
theorem hy_w_has : y_w_has.cls ≠ "java/lang/invoke/MethodHandle" ∧ y_w_has.cls ≠ "java/lang/invoke/VarHandle" ∧ (parseMethodDescriptor y_w_has.desc).map (fun d => d.parameters.length) = some 2 := by decide +kernel
def y_lamp_isOn : MethodName := ⟨"WhichSwitch$Lamp", "isOn", "(II)Z"⟩
theorem hc_lamp_isOn : Cond.code y_lamp_isOn prog_4_method_4_code 3 (some .boolean) ∈ q_tb := q_inT3 150 rfl rfl
theorem hi_lamp_isOn : Cond.initialized y_lamp_isOn.cls ∈ q_tb := q_inT1 9 rfl rfl
theorem hn_lamp_isOn : Cond.instanceMethod y_lamp_isOn ∈ q_tb := q_inT3 149 rfl rfl
theorem hz_lamp_isOn : Cond.selects y_lamp_isOn.cls y_lamp_isOn y_lamp_isOn ∈ q_tb := q_inP3 3 rfl
theorem hy_lamp_isOn : y_lamp_isOn.cls ≠ "java/lang/invoke/MethodHandle" ∧ y_lamp_isOn.cls ≠ "java/lang/invoke/VarHandle" ∧ (parseMethodDescriptor y_lamp_isOn.desc).map (fun d => d.parameters.length) = some 2 := by decide +kernel
def y_w_brightness : MethodName := ⟨"WhichSwitch", "brightness", "(II)I"⟩
theorem hc_w_brightness : Cond.code y_w_brightness prog_1_method_26_code 4 (some .int) ∈ q_tb := q_inT3 160 rfl rfl
theorem hi_w_brightness : Cond.initialized y_w_brightness.cls ∈ q_tb := q_inT1 1 rfl rfl
theorem hn_w_brightness : Cond.instanceMethod y_w_brightness ∈ q_tb := q_inT3 159 rfl rfl
theorem hz_w_brightness : Cond.selects y_w_brightness.cls y_w_brightness y_w_brightness ∈ q_tb := q_inP3 4 rfl
theorem hy_w_brightness : y_w_brightness.cls ≠ "java/lang/invoke/MethodHandle" ∧ y_w_brightness.cls ≠ "java/lang/invoke/VarHandle" ∧ (parseMethodDescriptor y_w_brightness.desc).map (fun d => d.parameters.length) = some 2 := by decide +kernel
def y_w_rowOf : MethodName := ⟨"WhichSwitch", "rowOf", "(II)I"⟩
theorem hc_w_rowOf : Cond.code y_w_rowOf prog_1_method_25_code 5 (some .int) ∈ q_tb := q_inT3 164 rfl rfl
theorem hi_w_rowOf : Cond.initialized y_w_rowOf.cls ∈ q_tb := q_inT1 1 rfl rfl
theorem hn_w_rowOf : Cond.instanceMethod y_w_rowOf ∈ q_tb := q_inT3 163 rfl rfl
theorem hz_w_rowOf : Cond.selects y_w_rowOf.cls y_w_rowOf y_w_rowOf ∈ q_tb := q_inP3 5 rfl
theorem hy_w_rowOf : y_w_rowOf.cls ≠ "java/lang/invoke/MethodHandle" ∧ y_w_rowOf.cls ≠ "java/lang/invoke/VarHandle" ∧ (parseMethodDescriptor y_w_rowOf.desc).map (fun d => d.parameters.length) = some 2 := by decide +kernel
def y_w_lawSaysOfLamp : MethodName := ⟨"WhichSwitch", "lawSaysOfLamp", "(III)I"⟩
theorem hc_w_lawSaysOfLamp : Cond.code y_w_lawSaysOfLamp prog_1_method_13_code 5 (some .int) ∈ q_tb := q_inT3 169 rfl rfl
theorem hi_w_lawSaysOfLamp : Cond.initialized y_w_lawSaysOfLamp.cls ∈ q_tb := q_inT1 1 rfl rfl
theorem hn_w_lawSaysOfLamp : Cond.instanceMethod y_w_lawSaysOfLamp ∈ q_tb := q_inT3 168 rfl rfl
theorem hz_w_lawSaysOfLamp : Cond.selects y_w_lawSaysOfLamp.cls y_w_lawSaysOfLamp y_w_lawSaysOfLamp ∈ q_tb := q_inP3 6 rfl
theorem hy_w_lawSaysOfLamp : y_w_lawSaysOfLamp.cls ≠ "java/lang/invoke/MethodHandle" ∧ y_w_lawSaysOfLamp.cls ≠ "java/lang/invoke/VarHandle" ∧ (parseMethodDescriptor y_w_lawSaysOfLamp.desc).map (fun d => d.parameters.length) = some 3 := by decide +kernel
def y_machine_tellNames : MethodName := ⟨"WhichSwitch$Machine", "tellNames", "(IIIIII)V"⟩
theorem hc_machine_tellNames : Cond.code y_machine_tellNames prog_5_method_2_code 7 none ∈ q_tb := q_inT3 173 rfl rfl
theorem hi_machine_tellNames : Cond.initialized y_machine_tellNames.cls ∈ q_tb := q_inT1 6 rfl rfl
theorem hn_machine_tellNames : Cond.instanceMethod y_machine_tellNames ∈ q_tb := q_inT3 172 rfl rfl
theorem hz_machine_tellNames : Cond.selects y_machine_tellNames.cls y_machine_tellNames y_machine_tellNames ∈ q_tb := q_inP3 7 rfl
theorem hy_machine_tellNames : y_machine_tellNames.cls ≠ "java/lang/invoke/MethodHandle" ∧ y_machine_tellNames.cls ≠ "java/lang/invoke/VarHandle" ∧ (parseMethodDescriptor y_machine_tellNames.desc).map (fun d => d.parameters.length) = some 6 := by decide +kernel
def y_w_textInForce : MethodName := ⟨"WhichSwitch", "textInForce", "()LWhichSwitch$Text;"⟩
theorem hc_w_textInForce : Cond.code y_w_textInForce prog_1_method_12_code 1 (some ((.object "WhichSwitch$Text"))) ∈ q_tb := q_inT3 177 rfl rfl
theorem hi_w_textInForce : Cond.initialized y_w_textInForce.cls ∈ q_tb := q_inT1 1 rfl rfl
theorem hn_w_textInForce : Cond.instanceMethod y_w_textInForce ∈ q_tb := q_inT3 176 rfl rfl
theorem hz_w_textInForce : Cond.selects y_w_textInForce.cls y_w_textInForce y_w_textInForce ∈ q_tb := q_inP3 8 rfl
theorem hy_w_textInForce : y_w_textInForce.cls ≠ "java/lang/invoke/MethodHandle" ∧ y_w_textInForce.cls ≠ "java/lang/invoke/VarHandle" ∧ (parseMethodDescriptor y_w_textInForce.desc).map (fun d => d.parameters.length) = some 0 := by decide +kernel
def y_machine_sayBy : MethodName := ⟨"WhichSwitch$Machine", "sayBy", "(LWhichSwitch$Text;I)I"⟩
theorem hc_machine_sayBy : Cond.code y_machine_sayBy prog_5_method_3_code 5 (some .int) ∈ q_tb := q_inT3 181 rfl rfl
theorem hi_machine_sayBy : Cond.initialized y_machine_sayBy.cls ∈ q_tb := q_inT1 6 rfl rfl
theorem hn_machine_sayBy : Cond.instanceMethod y_machine_sayBy ∈ q_tb := q_inT3 180 rfl rfl
theorem hz_machine_sayBy : Cond.selects y_machine_sayBy.cls y_machine_sayBy y_machine_sayBy ∈ q_tb := q_inP3 9 rfl
theorem hy_machine_sayBy : y_machine_sayBy.cls ≠ "java/lang/invoke/MethodHandle" ∧ y_machine_sayBy.cls ≠ "java/lang/invoke/VarHandle" ∧ (parseMethodDescriptor y_machine_sayBy.desc).map (fun d => d.parameters.length) = some 2 := by decide +kernel
def y_machine_take : MethodName := ⟨"WhichSwitch$Machine", "take", "(I)V"⟩
theorem hc_machine_take : Cond.code y_machine_take prog_5_method_4_code 4 none ∈ q_tb := q_inT3 186 rfl rfl
theorem hi_machine_take : Cond.initialized y_machine_take.cls ∈ q_tb := q_inT1 6 rfl rfl
theorem hn_machine_take : Cond.instanceMethod y_machine_take ∈ q_tb := q_inT3 185 rfl rfl
theorem hz_machine_take : Cond.selects y_machine_take.cls y_machine_take y_machine_take ∈ q_tb := q_inP3 10 rfl
theorem hy_machine_take : y_machine_take.cls ≠ "java/lang/invoke/MethodHandle" ∧ y_machine_take.cls ≠ "java/lang/invoke/VarHandle" ∧ (parseMethodDescriptor y_machine_take.desc).map (fun d => d.parameters.length) = some 1 := by decide +kernel
def y_machine_pop : MethodName := ⟨"WhichSwitch$Machine", "pop", "()I"⟩
theorem hc_machine_pop : Cond.code y_machine_pop prog_5_method_7_code 1 (some .int) ∈ q_tb := q_inT3 194 rfl rfl
theorem hi_machine_pop : Cond.initialized y_machine_pop.cls ∈ q_tb := q_inT1 6 rfl rfl
theorem hn_machine_pop : Cond.instanceMethod y_machine_pop ∈ q_tb := q_inT3 193 rfl rfl
theorem hz_machine_pop : Cond.selects y_machine_pop.cls y_machine_pop y_machine_pop ∈ q_tb := q_inP3 12 rfl
theorem hy_machine_pop : y_machine_pop.cls ≠ "java/lang/invoke/MethodHandle" ∧ y_machine_pop.cls ≠ "java/lang/invoke/VarHandle" ∧ (parseMethodDescriptor y_machine_pop.desc).map (fun d => d.parameters.length) = some 0 := by decide +kernel
def y_machine_push : MethodName := ⟨"WhichSwitch$Machine", "push", "(I)V"⟩
theorem hc_machine_push : Cond.code y_machine_push prog_5_method_6_code 2 none ∈ q_tb := q_inT3 190 rfl rfl
theorem hi_machine_push : Cond.initialized y_machine_push.cls ∈ q_tb := q_inT1 6 rfl rfl
theorem hn_machine_push : Cond.instanceMethod y_machine_push ∈ q_tb := q_inT3 189 rfl rfl
theorem hz_machine_push : Cond.selects y_machine_push.cls y_machine_push y_machine_push ∈ q_tb := q_inP3 11 rfl
theorem hy_machine_push : y_machine_push.cls ≠ "java/lang/invoke/MethodHandle" ∧ y_machine_push.cls ≠ "java/lang/invoke/VarHandle" ∧ (parseMethodDescriptor y_machine_push.desc).map (fun d => d.parameters.length) = some 1 := by decide +kernel
def y_machine_joined : MethodName := ⟨"WhichSwitch$Machine", "joined", "(III)I"⟩
theorem hc_machine_joined : Cond.code y_machine_joined prog_5_method_5_code 3 (some .int) ∈ q_tb := q_inT3 197 rfl rfl
theorem hi_machine_joined : Cond.initialized y_machine_joined.cls ∈ q_tb := q_inT1 6 rfl rfl
theorem hs_machine_joined : Cond.static y_machine_joined ∈ q_tb := q_inT3 196 rfl rfl
theorem hy_machine_joined : y_machine_joined.cls ≠ "java/lang/invoke/MethodHandle" ∧ y_machine_joined.cls ≠ "java/lang/invoke/VarHandle" ∧ (parseMethodDescriptor y_machine_joined.desc).map (fun d => d.parameters.length) = some 3 := by decide +kernel
def y_w_isRoom : MethodName := ⟨"WhichSwitch", "isRoom", "(I)Z"⟩
theorem hc_w_isRoom : Cond.code y_w_isRoom prog_1_method_102_code 1 (some .boolean) ∈ q_tb := q_inT3 206 rfl rfl
theorem hi_w_isRoom : Cond.initialized y_w_isRoom.cls ∈ q_tb := q_inT1 1 rfl rfl
theorem hs_w_isRoom : Cond.static y_w_isRoom ∈ q_tb := q_inT3 205 rfl rfl
theorem hy_w_isRoom : y_w_isRoom.cls ≠ "java/lang/invoke/MethodHandle" ∧ y_w_isRoom.cls ≠ "java/lang/invoke/VarHandle" ∧ (parseMethodDescriptor y_w_isRoom.desc).map (fun d => d.parameters.length) = some 1 := by decide +kernel
def y_w_isRooms : MethodName := ⟨"WhichSwitch", "isRooms", "(I)Z"⟩
theorem hc_w_isRooms : Cond.code y_w_isRooms prog_1_method_103_code 1 (some .boolean) ∈ q_tb := q_inT3 217 rfl rfl
theorem hi_w_isRooms : Cond.initialized y_w_isRooms.cls ∈ q_tb := q_inT1 1 rfl rfl
theorem hs_w_isRooms : Cond.static y_w_isRooms ∈ q_tb := q_inT3 216 rfl rfl
theorem hy_w_isRooms : y_w_isRooms.cls ≠ "java/lang/invoke/MethodHandle" ∧ y_w_isRooms.cls ≠ "java/lang/invoke/VarHandle" ∧ (parseMethodDescriptor y_w_isRooms.desc).map (fun d => d.parameters.length) = some 1 := by decide +kernel
def y_w_lampsIn : MethodName := ⟨"WhichSwitch", "lampsIn", "(I)I"⟩
theorem hc_w_lampsIn : Cond.code y_w_lampsIn prog_1_method_24_code 4 (some .int) ∈ q_tb := q_inT3 224 rfl rfl
theorem hi_w_lampsIn : Cond.initialized y_w_lampsIn.cls ∈ q_tb := q_inT1 1 rfl rfl
theorem hn_w_lampsIn : Cond.instanceMethod y_w_lampsIn ∈ q_tb := q_inT3 223 rfl rfl
theorem hz_w_lampsIn : Cond.selects y_w_lampsIn.cls y_w_lampsIn y_w_lampsIn ∈ q_tb := q_inP3 13 rfl
theorem hy_w_lampsIn : y_w_lampsIn.cls ≠ "java/lang/invoke/MethodHandle" ∧ y_w_lampsIn.cls ≠ "java/lang/invoke/VarHandle" ∧ (parseMethodDescriptor y_w_lampsIn.desc).map (fun d => d.parameters.length) = some 1 := by decide +kernel
def y_w_isSubset : MethodName := ⟨"WhichSwitch", "isSubset", "(II)Z"⟩
theorem hc_w_isSubset : Cond.code y_w_isSubset prog_1_method_96_code 2 (some .boolean) ∈ q_tb := q_inT3 220 rfl rfl
theorem hi_w_isSubset : Cond.initialized y_w_isSubset.cls ∈ q_tb := q_inT1 1 rfl rfl
theorem hs_w_isSubset : Cond.static y_w_isSubset ∈ q_tb := q_inT3 219 rfl rfl
theorem hy_w_isSubset : y_w_isSubset.cls ≠ "java/lang/invoke/MethodHandle" ∧ y_w_isSubset.cls ≠ "java/lang/invoke/VarHandle" ∧ (parseMethodDescriptor y_w_isSubset.desc).map (fun d => d.parameters.length) = some 2 := by decide +kernel
def y_w_amissLamps : MethodName := ⟨"WhichSwitch", "amissLamps", "(ILWhichSwitch$Ask;)I"⟩
theorem hc_w_amissLamps : Cond.code y_w_amissLamps prog_1_method_39_code 4 (some .int) ∈ q_tb := q_inT3 236 rfl rfl
theorem hi_w_amissLamps : Cond.initialized y_w_amissLamps.cls ∈ q_tb := q_inT1 1 rfl rfl
theorem hn_w_amissLamps : Cond.instanceMethod y_w_amissLamps ∈ q_tb := q_inT3 235 rfl rfl
theorem hz_w_amissLamps : Cond.selects y_w_amissLamps.cls y_w_amissLamps y_w_amissLamps ∈ q_tb := q_inP3 14 rfl
theorem hy_w_amissLamps : y_w_amissLamps.cls ≠ "java/lang/invoke/MethodHandle" ∧ y_w_amissLamps.cls ≠ "java/lang/invoke/VarHandle" ∧ (parseMethodDescriptor y_w_amissLamps.desc).map (fun d => d.parameters.length) = some 2 := by decide +kernel
def y_w_missesOf : MethodName := ⟨"WhichSwitch", "missesOf", "(I)I"⟩
theorem hc_w_missesOf : Cond.code y_w_missesOf prog_1_method_40_code 4 (some .int) ∈ q_tb := q_inT4 4 rfl rfl
theorem hi_w_missesOf : Cond.initialized y_w_missesOf.cls ∈ q_tb := q_inT1 1 rfl rfl
theorem hn_w_missesOf : Cond.instanceMethod y_w_missesOf ∈ q_tb := q_inT4 3 rfl rfl
theorem hz_w_missesOf : Cond.selects y_w_missesOf.cls y_w_missesOf y_w_missesOf ∈ q_tb := q_inP3 15 rfl
theorem hy_w_missesOf : y_w_missesOf.cls ≠ "java/lang/invoke/MethodHandle" ∧ y_w_missesOf.cls ≠ "java/lang/invoke/VarHandle" ∧ (parseMethodDescriptor y_w_missesOf.desc).map (fun d => d.parameters.length) = some 1 := by decide +kernel
def y_ji_bitCount : MethodName := ⟨"java/lang/Integer", "bitCount", "(I)I"⟩
theorem hc_ji_bitCount : Cond.code y_ji_bitCount prog_15_method_49_code 1 (some .int) ∈ q_tb := q_inT4 7 rfl rfl
theorem hi_ji_bitCount : Cond.initialized y_ji_bitCount.cls ∈ q_tb := q_inT1 20 rfl rfl
theorem hs_ji_bitCount : Cond.static y_ji_bitCount ∈ q_tb := q_inT4 6 rfl rfl
theorem hy_ji_bitCount : y_ji_bitCount.cls ≠ "java/lang/invoke/MethodHandle" ∧ y_ji_bitCount.cls ≠ "java/lang/invoke/VarHandle" ∧ (parseMethodDescriptor y_ji_bitCount.desc).map (fun d => d.parameters.length) = some 1 := by decide +kernel
def y_w_letHouses : MethodName := ⟨"WhichSwitch", "letHouses", "()I"⟩
theorem hc_w_letHouses : Cond.code y_w_letHouses prog_1_method_41_code 3 (some .int) ∈ q_tb := q_inT4 18 rfl rfl
theorem hi_w_letHouses : Cond.initialized y_w_letHouses.cls ∈ q_tb := q_inT1 1 rfl rfl
theorem hn_w_letHouses : Cond.instanceMethod y_w_letHouses ∈ q_tb := q_inT4 17 rfl rfl
theorem hz_w_letHouses : Cond.selects y_w_letHouses.cls y_w_letHouses y_w_letHouses ∈ q_tb := q_inP4 0 rfl
theorem hy_w_letHouses : y_w_letHouses.cls ≠ "java/lang/invoke/MethodHandle" ∧ y_w_letHouses.cls ≠ "java/lang/invoke/VarHandle" ∧ (parseMethodDescriptor y_w_letHouses.desc).map (fun d => d.parameters.length) = some 0 := by decide +kernel
def y_w_housesShowing : MethodName := ⟨"WhichSwitch", "housesShowing", "(LWhichSwitch$Ask;)I"⟩
theorem hc_w_housesShowing : Cond.code y_w_housesShowing prog_1_method_42_code 6 (some .int) ∈ q_tb := q_inT4 22 rfl rfl
theorem hi_w_housesShowing : Cond.initialized y_w_housesShowing.cls ∈ q_tb := q_inT1 1 rfl rfl
theorem hn_w_housesShowing : Cond.instanceMethod y_w_housesShowing ∈ q_tb := q_inT4 21 rfl rfl
theorem hz_w_housesShowing : Cond.selects y_w_housesShowing.cls y_w_housesShowing y_w_housesShowing ∈ q_tb := q_inP4 1 rfl
theorem hy_w_housesShowing : y_w_housesShowing.cls ≠ "java/lang/invoke/MethodHandle" ∧ y_w_housesShowing.cls ≠ "java/lang/invoke/VarHandle" ∧ (parseMethodDescriptor y_w_housesShowing.desc).map (fun d => d.parameters.length) = some 1 := by decide +kernel
def y_w_isFuses : MethodName := ⟨"WhichSwitch", "isFuses", "(I)Z"⟩
theorem hc_w_isFuses : Cond.code y_w_isFuses prog_1_method_98_code 2 (some .boolean) ∈ q_tb := q_inT4 38 rfl rfl
theorem hi_w_isFuses : Cond.initialized y_w_isFuses.cls ∈ q_tb := q_inT1 1 rfl rfl
theorem hn_w_isFuses : Cond.instanceMethod y_w_isFuses ∈ q_tb := q_inT4 37 rfl rfl
theorem hz_w_isFuses : Cond.selects y_w_isFuses.cls y_w_isFuses y_w_isFuses ∈ q_tb := q_inP4 2 rfl
theorem hy_w_isFuses : y_w_isFuses.cls ≠ "java/lang/invoke/MethodHandle" ∧ y_w_isFuses.cls ≠ "java/lang/invoke/VarHandle" ∧ (parseMethodDescriptor y_w_isFuses.desc).map (fun d => d.parameters.length) = some 1 := by decide +kernel
def y_w_fillShows : MethodName := ⟨"WhichSwitch", "fillShows", "(II)V"⟩
theorem hc_w_fillShows : Cond.code y_w_fillShows prog_1_method_43_code 7 none ∈ q_tb := q_inT4 42 rfl rfl
theorem hi_w_fillShows : Cond.initialized y_w_fillShows.cls ∈ q_tb := q_inT1 1 rfl rfl
theorem hn_w_fillShows : Cond.instanceMethod y_w_fillShows ∈ q_tb := q_inT4 41 rfl rfl
theorem hz_w_fillShows : Cond.selects y_w_fillShows.cls y_w_fillShows y_w_fillShows ∈ q_tb := q_inP4 3 rfl
theorem hy_w_fillShows : y_w_fillShows.cls ≠ "java/lang/invoke/MethodHandle" ∧ y_w_fillShows.cls ≠ "java/lang/invoke/VarHandle" ∧ (parseMethodDescriptor y_w_fillShows.desc).map (fun d => d.parameters.length) = some 2 := by decide +kernel
def y_w_kindCount : MethodName := ⟨"WhichSwitch", "kindCount", "(II)I"⟩
theorem hc_w_kindCount : Cond.code y_w_kindCount prog_1_method_45_code 6 (some .int) ∈ q_tb := q_inT4 46 rfl rfl
theorem hi_w_kindCount : Cond.initialized y_w_kindCount.cls ∈ q_tb := q_inT1 1 rfl rfl
theorem hn_w_kindCount : Cond.instanceMethod y_w_kindCount ∈ q_tb := q_inT4 45 rfl rfl
theorem hz_w_kindCount : Cond.selects y_w_kindCount.cls y_w_kindCount y_w_kindCount ∈ q_tb := q_inP4 4 rfl
theorem hy_w_kindCount : y_w_kindCount.cls ≠ "java/lang/invoke/MethodHandle" ∧ y_w_kindCount.cls ≠ "java/lang/invoke/VarHandle" ∧ (parseMethodDescriptor y_w_kindCount.desc).map (fun d => d.parameters.length) = some 2 := by decide +kernel
def y_w_greatestKind : MethodName := ⟨"WhichSwitch", "greatestKind", "(II)I"⟩
theorem hc_w_greatestKind : Cond.code y_w_greatestKind prog_1_method_46_code 7 (some .int) ∈ q_tb := q_inT4 54 rfl rfl
theorem hi_w_greatestKind : Cond.initialized y_w_greatestKind.cls ∈ q_tb := q_inT1 1 rfl rfl
theorem hn_w_greatestKind : Cond.instanceMethod y_w_greatestKind ∈ q_tb := q_inT4 53 rfl rfl
theorem hz_w_greatestKind : Cond.selects y_w_greatestKind.cls y_w_greatestKind y_w_greatestKind ∈ q_tb := q_inP4 6 rfl
theorem hy_w_greatestKind : y_w_greatestKind.cls ≠ "java/lang/invoke/MethodHandle" ∧ y_w_greatestKind.cls ≠ "java/lang/invoke/VarHandle" ∧ (parseMethodDescriptor y_w_greatestKind.desc).map (fun d => d.parameters.length) = some 2 := by decide +kernel
def y_w_kindOf : MethodName := ⟨"WhichSwitch", "kindOf", "(III)I"⟩
theorem hc_w_kindOf : Cond.code y_w_kindOf prog_1_method_44_code 7 (some .int) ∈ q_tb := q_inT4 50 rfl rfl
theorem hi_w_kindOf : Cond.initialized y_w_kindOf.cls ∈ q_tb := q_inT1 1 rfl rfl
theorem hn_w_kindOf : Cond.instanceMethod y_w_kindOf ∈ q_tb := q_inT4 49 rfl rfl
theorem hz_w_kindOf : Cond.selects y_w_kindOf.cls y_w_kindOf y_w_kindOf ∈ q_tb := q_inP4 5 rfl
theorem hy_w_kindOf : y_w_kindOf.cls ≠ "java/lang/invoke/MethodHandle" ∧ y_w_kindOf.cls ≠ "java/lang/invoke/VarHandle" ∧ (parseMethodDescriptor y_w_kindOf.desc).map (fun d => d.parameters.length) = some 3 := by decide +kernel
def y_w_nextSet : MethodName := ⟨"WhichSwitch", "nextSet", "(II)I"⟩
theorem hc_w_nextSet : Cond.code y_w_nextSet prog_1_method_47_code 9 (some .int) ∈ q_tb := q_inT4 62 rfl rfl
theorem hi_w_nextSet : Cond.initialized y_w_nextSet.cls ∈ q_tb := q_inT1 1 rfl rfl
theorem hn_w_nextSet : Cond.instanceMethod y_w_nextSet ∈ q_tb := q_inT4 61 rfl rfl
theorem hz_w_nextSet : Cond.selects y_w_nextSet.cls y_w_nextSet y_w_nextSet ∈ q_tb := q_inP4 7 rfl
theorem hy_w_nextSet : y_w_nextSet.cls ≠ "java/lang/invoke/MethodHandle" ∧ y_w_nextSet.cls ≠ "java/lang/invoke/VarHandle" ∧ (parseMethodDescriptor y_w_nextSet.desc).map (fun d => d.parameters.length) = some 2 := by decide +kernel
def y_w_leftBehind : MethodName := ⟨"WhichSwitch", "leftBehind", "(II)I"⟩
theorem hc_w_leftBehind : Cond.code y_w_leftBehind prog_1_method_48_code 7 (some .int) ∈ q_tb := q_inT4 70 rfl rfl
theorem hi_w_leftBehind : Cond.initialized y_w_leftBehind.cls ∈ q_tb := q_inT1 1 rfl rfl
theorem hn_w_leftBehind : Cond.instanceMethod y_w_leftBehind ∈ q_tb := q_inT4 69 rfl rfl
theorem hz_w_leftBehind : Cond.selects y_w_leftBehind.cls y_w_leftBehind y_w_leftBehind ∈ q_tb := q_inP4 8 rfl
theorem hy_w_leftBehind : y_w_leftBehind.cls ≠ "java/lang/invoke/MethodHandle" ∧ y_w_leftBehind.cls ≠ "java/lang/invoke/VarHandle" ∧ (parseMethodDescriptor y_w_leftBehind.desc).map (fun d => d.parameters.length) = some 2 := by decide +kernel
def y_w_agreedFuse : MethodName := ⟨"WhichSwitch", "agreedFuse", "(II)I"⟩
theorem hc_w_agreedFuse : Cond.code y_w_agreedFuse prog_1_method_54_code 6 (some .int) ∈ q_tb := q_inT4 86 rfl rfl
theorem hi_w_agreedFuse : Cond.initialized y_w_agreedFuse.cls ∈ q_tb := q_inT1 1 rfl rfl
theorem hn_w_agreedFuse : Cond.instanceMethod y_w_agreedFuse ∈ q_tb := q_inT4 85 rfl rfl
theorem hz_w_agreedFuse : Cond.selects y_w_agreedFuse.cls y_w_agreedFuse y_w_agreedFuse ∈ q_tb := q_inP4 9 rfl
theorem hy_w_agreedFuse : y_w_agreedFuse.cls ≠ "java/lang/invoke/MethodHandle" ∧ y_w_agreedFuse.cls ≠ "java/lang/invoke/VarHandle" ∧ (parseMethodDescriptor y_w_agreedFuse.desc).map (fun d => d.parameters.length) = some 2 := by decide +kernel
def y_w_housesFeeding : MethodName := ⟨"WhichSwitch", "housesFeeding", "(III)I"⟩
theorem hc_w_housesFeeding : Cond.code y_w_housesFeeding prog_1_method_55_code 6 (some .int) ∈ q_tb := q_inT4 98 rfl rfl
theorem hi_w_housesFeeding : Cond.initialized y_w_housesFeeding.cls ∈ q_tb := q_inT1 1 rfl rfl
theorem hn_w_housesFeeding : Cond.instanceMethod y_w_housesFeeding ∈ q_tb := q_inT4 97 rfl rfl
theorem hz_w_housesFeeding : Cond.selects y_w_housesFeeding.cls y_w_housesFeeding y_w_housesFeeding ∈ q_tb := q_inP4 10 rfl
theorem hy_w_housesFeeding : y_w_housesFeeding.cls ≠ "java/lang/invoke/MethodHandle" ∧ y_w_housesFeeding.cls ≠ "java/lang/invoke/VarHandle" ∧ (parseMethodDescriptor y_w_housesFeeding.desc).map (fun d => d.parameters.length) = some 3 := by decide +kernel
def y_sumset_begin : MethodName := ⟨"WhichSwitch$SumSet", "begin", "()V"⟩
theorem hc_sumset_begin : Cond.code y_sumset_begin prog_9_method_2_code 2 none ∈ q_tb := q_inT4 114 rfl rfl
theorem hi_sumset_begin : Cond.initialized y_sumset_begin.cls ∈ q_tb := q_inT1 7 rfl rfl
theorem hn_sumset_begin : Cond.instanceMethod y_sumset_begin ∈ q_tb := q_inT4 113 rfl rfl
theorem hz_sumset_begin : Cond.selects y_sumset_begin.cls y_sumset_begin y_sumset_begin ∈ q_tb := q_inP4 11 rfl
theorem hy_sumset_begin : y_sumset_begin.cls ≠ "java/lang/invoke/MethodHandle" ∧ y_sumset_begin.cls ≠ "java/lang/invoke/VarHandle" ∧ (parseMethodDescriptor y_sumset_begin.desc).map (fun d => d.parameters.length) = some 0 := by decide +kernel
def y_sumset_join : MethodName := ⟨"WhichSwitch$SumSet", "join", "(I)V"⟩
theorem hc_sumset_join : Cond.code y_sumset_join prog_9_method_4_code 3 none ∈ q_tb := q_inT4 118 rfl rfl
theorem hi_sumset_join : Cond.initialized y_sumset_join.cls ∈ q_tb := q_inT1 7 rfl rfl
theorem hn_sumset_join : Cond.instanceMethod y_sumset_join ∈ q_tb := q_inT4 117 rfl rfl
theorem hz_sumset_join : Cond.selects y_sumset_join.cls y_sumset_join y_sumset_join ∈ q_tb := q_inP4 12 rfl
theorem hy_sumset_join : y_sumset_join.cls ≠ "java/lang/invoke/MethodHandle" ∧ y_sumset_join.cls ≠ "java/lang/invoke/VarHandle" ∧ (parseMethodDescriptor y_sumset_join.desc).map (fun d => d.parameters.length) = some 1 := by decide +kernel
def y_sumset_size : MethodName := ⟨"WhichSwitch$SumSet", "size", "()I"⟩
theorem hc_sumset_size : Cond.code y_sumset_size prog_9_method_6_code 3 (some .int) ∈ q_tb := q_inT4 126 rfl rfl
theorem hi_sumset_size : Cond.initialized y_sumset_size.cls ∈ q_tb := q_inT1 7 rfl rfl
theorem hn_sumset_size : Cond.instanceMethod y_sumset_size ∈ q_tb := q_inT4 125 rfl rfl
theorem hz_sumset_size : Cond.selects y_sumset_size.cls y_sumset_size y_sumset_size ∈ q_tb := q_inP4 14 rfl
theorem hy_sumset_size : y_sumset_size.cls ≠ "java/lang/invoke/MethodHandle" ∧ y_sumset_size.cls ≠ "java/lang/invoke/VarHandle" ∧ (parseMethodDescriptor y_sumset_size.desc).map (fun d => d.parameters.length) = some 0 := by decide +kernel
def y_sumset_raised : MethodName := ⟨"WhichSwitch$SumSet", "raised", "(II)J"⟩
theorem hc_sumset_raised : Cond.code y_sumset_raised prog_9_method_5_code 7 (some .long) ∈ q_tb := q_inT4 122 rfl rfl
theorem hi_sumset_raised : Cond.initialized y_sumset_raised.cls ∈ q_tb := q_inT1 7 rfl rfl
theorem hn_sumset_raised : Cond.instanceMethod y_sumset_raised ∈ q_tb := q_inT4 121 rfl rfl
theorem hz_sumset_raised : Cond.selects y_sumset_raised.cls y_sumset_raised y_sumset_raised ∈ q_tb := q_inP4 13 rfl
theorem hy_sumset_raised : y_sumset_raised.cls ≠ "java/lang/invoke/MethodHandle" ∧ y_sumset_raised.cls ≠ "java/lang/invoke/VarHandle" ∧ (parseMethodDescriptor y_sumset_raised.desc).map (fun d => d.parameters.length) = some 2 := by decide +kernel
def y_jl_bitCount : MethodName := ⟨"java/lang/Long", "bitCount", "(J)I"⟩
theorem hc_jl_bitCount : Cond.code y_jl_bitCount prog_16_method_50_code 2 (some .int) ∈ q_tb := q_inT4 129 rfl rfl
theorem hi_jl_bitCount : Cond.initialized y_jl_bitCount.cls ∈ q_tb := q_inT1 21 rfl rfl
theorem hs_jl_bitCount : Cond.static y_jl_bitCount ∈ q_tb := q_inT4 128 rfl rfl
theorem hy_jl_bitCount : y_jl_bitCount.cls ≠ "java/lang/invoke/MethodHandle" ∧ y_jl_bitCount.cls ≠ "java/lang/invoke/VarHandle" ∧ (parseMethodDescriptor y_jl_bitCount.desc).map (fun d => d.parameters.length) = some 1 := by decide +kernel
def y_w_powerOf : MethodName := ⟨"WhichSwitch", "powerOf", "(I)I"⟩
theorem hc_w_powerOf : Cond.code y_w_powerOf prog_1_method_60_code 4 (some .int) ∈ q_tb := q_inT4 140 rfl rfl
theorem hi_w_powerOf : Cond.initialized y_w_powerOf.cls ∈ q_tb := q_inT1 1 rfl rfl
theorem hn_w_powerOf : Cond.instanceMethod y_w_powerOf ∈ q_tb := q_inT4 139 rfl rfl
theorem hz_w_powerOf : Cond.selects y_w_powerOf.cls y_w_powerOf y_w_powerOf ∈ q_tb := q_inP4 15 rfl
theorem hy_w_powerOf : y_w_powerOf.cls ≠ "java/lang/invoke/MethodHandle" ∧ y_w_powerOf.cls ≠ "java/lang/invoke/VarHandle" ∧ (parseMethodDescriptor y_w_powerOf.desc).map (fun d => d.parameters.length) = some 1 := by decide +kernel
def y_w_gatherOthers : MethodName := ⟨"WhichSwitch", "gatherOthers", "(II)Z"⟩
theorem hc_w_gatherOthers : Cond.code y_w_gatherOthers prog_1_method_59_code 4 (some .boolean) ∈ q_tb := q_inT4 148 rfl rfl
theorem hi_w_gatherOthers : Cond.initialized y_w_gatherOthers.cls ∈ q_tb := q_inT1 1 rfl rfl
theorem hn_w_gatherOthers : Cond.instanceMethod y_w_gatherOthers ∈ q_tb := q_inT4 147 rfl rfl
theorem hz_w_gatherOthers : Cond.selects y_w_gatherOthers.cls y_w_gatherOthers y_w_gatherOthers ∈ q_tb := q_inP5 0 rfl
theorem hy_w_gatherOthers : y_w_gatherOthers.cls ≠ "java/lang/invoke/MethodHandle" ∧ y_w_gatherOthers.cls ≠ "java/lang/invoke/VarHandle" ∧ (parseMethodDescriptor y_w_gatherOthers.desc).map (fun d => d.parameters.length) = some 2 := by decide +kernel
def y_sumset_meets : MethodName := ⟨"WhichSwitch$SumSet", "meets", "(I)Z"⟩
theorem hc_sumset_meets : Cond.code y_sumset_meets prog_9_method_3_code 3 (some .boolean) ∈ q_tb := q_inT4 152 rfl rfl
theorem hi_sumset_meets : Cond.initialized y_sumset_meets.cls ∈ q_tb := q_inT1 7 rfl rfl
theorem hn_sumset_meets : Cond.instanceMethod y_sumset_meets ∈ q_tb := q_inT4 151 rfl rfl
theorem hz_sumset_meets : Cond.selects y_sumset_meets.cls y_sumset_meets y_sumset_meets ∈ q_tb := q_inP5 1 rfl
theorem hy_sumset_meets : y_sumset_meets.cls ≠ "java/lang/invoke/MethodHandle" ∧ y_sumset_meets.cls ≠ "java/lang/invoke/VarHandle" ∧ (parseMethodDescriptor y_sumset_meets.desc).map (fun d => d.parameters.length) = some 1 := by decide +kernel
def y_w_isLabel : MethodName := ⟨"WhichSwitch", "isLabel", "(I)Z"⟩
theorem hc_w_isLabel : Cond.code y_w_isLabel prog_1_method_101_code 2 (some .boolean) ∈ q_tb := q_inT4 164 rfl rfl
theorem hi_w_isLabel : Cond.initialized y_w_isLabel.cls ∈ q_tb := q_inT1 1 rfl rfl
theorem hn_w_isLabel : Cond.instanceMethod y_w_isLabel ∈ q_tb := q_inT4 163 rfl rfl
theorem hz_w_isLabel : Cond.selects y_w_isLabel.cls y_w_isLabel y_w_isLabel ∈ q_tb := q_inP5 2 rfl
theorem hy_w_isLabel : y_w_isLabel.cls ≠ "java/lang/invoke/MethodHandle" ∧ y_w_isLabel.cls ≠ "java/lang/invoke/VarHandle" ∧ (parseMethodDescriptor y_w_isLabel.desc).map (fun d => d.parameters.length) = some 1 := by decide +kernel
def y_w_agreements : MethodName := ⟨"WhichSwitch", "agreements", "(II)I"⟩
theorem hc_w_agreements : Cond.code y_w_agreements prog_1_method_66_code 5 (some .int) ∈ q_tb := q_inT4 168 rfl rfl
theorem hi_w_agreements : Cond.initialized y_w_agreements.cls ∈ q_tb := q_inT1 1 rfl rfl
theorem hn_w_agreements : Cond.instanceMethod y_w_agreements ∈ q_tb := q_inT4 167 rfl rfl
theorem hz_w_agreements : Cond.selects y_w_agreements.cls y_w_agreements y_w_agreements ∈ q_tb := q_inP5 3 rfl
theorem hy_w_agreements : y_w_agreements.cls ≠ "java/lang/invoke/MethodHandle" ∧ y_w_agreements.cls ≠ "java/lang/invoke/VarHandle" ∧ (parseMethodDescriptor y_w_agreements.desc).map (fun d => d.parameters.length) = some 2 := by decide +kernel
def y_w_agreementsOver : MethodName := ⟨"WhichSwitch", "agreementsOver", "(II)I"⟩
theorem hc_w_agreementsOver : Cond.code y_w_agreementsOver prog_1_method_67_code 5 (some .int) ∈ q_tb := q_inT4 176 rfl rfl
theorem hi_w_agreementsOver : Cond.initialized y_w_agreementsOver.cls ∈ q_tb := q_inT1 1 rfl rfl
theorem hn_w_agreementsOver : Cond.instanceMethod y_w_agreementsOver ∈ q_tb := q_inT4 175 rfl rfl
theorem hz_w_agreementsOver : Cond.selects y_w_agreementsOver.cls y_w_agreementsOver y_w_agreementsOver ∈ q_tb := q_inP5 4 rfl
theorem hy_w_agreementsOver : y_w_agreementsOver.cls ≠ "java/lang/invoke/MethodHandle" ∧ y_w_agreementsOver.cls ≠ "java/lang/invoke/VarHandle" ∧ (parseMethodDescriptor y_w_agreementsOver.desc).map (fun d => d.parameters.length) = some 2 := by decide +kernel
def y_w_commonDivisor : MethodName := ⟨"WhichSwitch", "commonDivisor", "(II)I"⟩
theorem hc_w_commonDivisor : Cond.code y_w_commonDivisor prog_1_method_68_code 6 (some .int) ∈ q_tb := q_inT4 184 rfl rfl
theorem hi_w_commonDivisor : Cond.initialized y_w_commonDivisor.cls ∈ q_tb := q_inT1 1 rfl rfl
theorem hs_w_commonDivisor : Cond.static y_w_commonDivisor ∈ q_tb := q_inT4 183 rfl rfl
theorem hy_w_commonDivisor : y_w_commonDivisor.cls ≠ "java/lang/invoke/MethodHandle" ∧ y_w_commonDivisor.cls ≠ "java/lang/invoke/VarHandle" ∧ (parseMethodDescriptor y_w_commonDivisor.desc).map (fun d => d.parameters.length) = some 2 := by decide +kernel
def y_w_fillTones : MethodName := ⟨"WhichSwitch", "fillTones", "(II)V"⟩
theorem hc_w_fillTones : Cond.code y_w_fillTones prog_1_method_69_code 4 none ∈ q_tb := q_inT4 192 rfl rfl
theorem hi_w_fillTones : Cond.initialized y_w_fillTones.cls ∈ q_tb := q_inT1 1 rfl rfl
theorem hn_w_fillTones : Cond.instanceMethod y_w_fillTones ∈ q_tb := q_inT4 191 rfl rfl
theorem hz_w_fillTones : Cond.selects y_w_fillTones.cls y_w_fillTones y_w_fillTones ∈ q_tb := q_inP5 5 rfl
theorem hy_w_fillTones : y_w_fillTones.cls ≠ "java/lang/invoke/MethodHandle" ∧ y_w_fillTones.cls ≠ "java/lang/invoke/VarHandle" ∧ (parseMethodDescriptor y_w_fillTones.desc).map (fun d => d.parameters.length) = some 2 := by decide +kernel
def y_w_wallAmiss : MethodName := ⟨"WhichSwitch", "wallAmiss", "(LWhichSwitch$Sheet;I)I"⟩
theorem hc_w_wallAmiss : Cond.code y_w_wallAmiss prog_1_method_70_code 5 (some .int) ∈ q_tb := q_inT4 196 rfl rfl
theorem hi_w_wallAmiss : Cond.initialized y_w_wallAmiss.cls ∈ q_tb := q_inT1 1 rfl rfl
theorem hn_w_wallAmiss : Cond.instanceMethod y_w_wallAmiss ∈ q_tb := q_inT4 195 rfl rfl
theorem hz_w_wallAmiss : Cond.selects y_w_wallAmiss.cls y_w_wallAmiss y_w_wallAmiss ∈ q_tb := q_inP5 6 rfl
theorem hy_w_wallAmiss : y_w_wallAmiss.cls ≠ "java/lang/invoke/MethodHandle" ∧ y_w_wallAmiss.cls ≠ "java/lang/invoke/VarHandle" ∧ (parseMethodDescriptor y_w_wallAmiss.desc).map (fun d => d.parameters.length) = some 2 := by decide +kernel
def y_w_isFuse : MethodName := ⟨"WhichSwitch", "isFuse", "(I)Z"⟩
theorem hc_w_isFuse : Cond.code y_w_isFuse prog_1_method_97_code 2 (some .boolean) ∈ q_tb := q_inT4 211 rfl rfl
theorem hi_w_isFuse : Cond.initialized y_w_isFuse.cls ∈ q_tb := q_inT1 1 rfl rfl
theorem hn_w_isFuse : Cond.instanceMethod y_w_isFuse ∈ q_tb := q_inT4 210 rfl rfl
theorem hz_w_isFuse : Cond.selects y_w_isFuse.cls y_w_isFuse y_w_isFuse ∈ q_tb := q_inP5 7 rfl
theorem hy_w_isFuse : y_w_isFuse.cls ≠ "java/lang/invoke/MethodHandle" ∧ y_w_isFuse.cls ≠ "java/lang/invoke/VarHandle" ∧ (parseMethodDescriptor y_w_isFuse.desc).map (fun d => d.parameters.length) = some 1 := by decide +kernel
def y_w_forgetSaid : MethodName := ⟨"WhichSwitch", "forgetSaid", "()V"⟩
theorem hc_w_forgetSaid : Cond.code y_w_forgetSaid prog_1_method_81_code 2 none ∈ q_tb := q_inT4 215 rfl rfl
theorem hi_w_forgetSaid : Cond.initialized y_w_forgetSaid.cls ∈ q_tb := q_inT1 1 rfl rfl
theorem hn_w_forgetSaid : Cond.instanceMethod y_w_forgetSaid ∈ q_tb := q_inT4 214 rfl rfl
theorem hz_w_forgetSaid : Cond.selects y_w_forgetSaid.cls y_w_forgetSaid y_w_forgetSaid ∈ q_tb := q_inP5 8 rfl
theorem hy_w_forgetSaid : y_w_forgetSaid.cls ≠ "java/lang/invoke/MethodHandle" ∧ y_w_forgetSaid.cls ≠ "java/lang/invoke/VarHandle" ∧ (parseMethodDescriptor y_w_forgetSaid.desc).map (fun d => d.parameters.length) = some 0 := by decide +kernel
def y_w_loadOf : MethodName := ⟨"WhichSwitch", "loadOf", "(II)I"⟩
theorem hc_w_loadOf : Cond.code y_w_loadOf prog_1_method_82_code 5 (some .int) ∈ q_tb := q_inT4 219 rfl rfl
theorem hi_w_loadOf : Cond.initialized y_w_loadOf.cls ∈ q_tb := q_inT1 1 rfl rfl
theorem hn_w_loadOf : Cond.instanceMethod y_w_loadOf ∈ q_tb := q_inT4 218 rfl rfl
theorem hz_w_loadOf : Cond.selects y_w_loadOf.cls y_w_loadOf y_w_loadOf ∈ q_tb := q_inP5 9 rfl
theorem hy_w_loadOf : y_w_loadOf.cls ≠ "java/lang/invoke/MethodHandle" ∧ y_w_loadOf.cls ≠ "java/lang/invoke/VarHandle" ∧ (parseMethodDescriptor y_w_loadOf.desc).map (fun d => d.parameters.length) = some 2 := by decide +kernel
def y_w_lampLoad : MethodName := ⟨"WhichSwitch", "lampLoad", "(II)I"⟩
theorem hc_w_lampLoad : Cond.code y_w_lampLoad prog_1_method_83_code 4 (some .int) ∈ q_tb := q_inT4 223 rfl rfl
theorem hi_w_lampLoad : Cond.initialized y_w_lampLoad.cls ∈ q_tb := q_inT1 1 rfl rfl
theorem hn_w_lampLoad : Cond.instanceMethod y_w_lampLoad ∈ q_tb := q_inT4 222 rfl rfl
theorem hz_w_lampLoad : Cond.selects y_w_lampLoad.cls y_w_lampLoad y_w_lampLoad ∈ q_tb := q_inP5 10 rfl
theorem hy_w_lampLoad : y_w_lampLoad.cls ≠ "java/lang/invoke/MethodHandle" ∧ y_w_lampLoad.cls ≠ "java/lang/invoke/VarHandle" ∧ (parseMethodDescriptor y_w_lampLoad.desc).map (fun d => d.parameters.length) = some 2 := by decide +kernel
def y_w_usedSwitches : MethodName := ⟨"WhichSwitch", "usedSwitches", "()I"⟩
theorem hc_w_usedSwitches : Cond.code y_w_usedSwitches prog_1_method_84_code 3 (some .int) ∈ q_tb := q_inT4 235 rfl rfl
theorem hi_w_usedSwitches : Cond.initialized y_w_usedSwitches.cls ∈ q_tb := q_inT1 1 rfl rfl
theorem hn_w_usedSwitches : Cond.instanceMethod y_w_usedSwitches ∈ q_tb := q_inT4 234 rfl rfl
theorem hz_w_usedSwitches : Cond.selects y_w_usedSwitches.cls y_w_usedSwitches y_w_usedSwitches ∈ q_tb := q_inP5 11 rfl
theorem hy_w_usedSwitches : y_w_usedSwitches.cls ≠ "java/lang/invoke/MethodHandle" ∧ y_w_usedSwitches.cls ≠ "java/lang/invoke/VarHandle" ∧ (parseMethodDescriptor y_w_usedSwitches.desc).map (fun d => d.parameters.length) = some 0 := by decide +kernel
def y_w_worthiestFuse : MethodName := ⟨"WhichSwitch", "worthiestFuse", "(II)I"⟩
theorem hc_w_worthiestFuse : Cond.code y_w_worthiestFuse prog_1_method_85_code 7 (some .int) ∈ q_tb := q_inT5 12 rfl rfl
theorem hi_w_worthiestFuse : Cond.initialized y_w_worthiestFuse.cls ∈ q_tb := q_inT1 1 rfl rfl
theorem hn_w_worthiestFuse : Cond.instanceMethod y_w_worthiestFuse ∈ q_tb := q_inT5 11 rfl rfl
theorem hz_w_worthiestFuse : Cond.selects y_w_worthiestFuse.cls y_w_worthiestFuse y_w_worthiestFuse ∈ q_tb := q_inP5 12 rfl
theorem hy_w_worthiestFuse : y_w_worthiestFuse.cls ≠ "java/lang/invoke/MethodHandle" ∧ y_w_worthiestFuse.cls ≠ "java/lang/invoke/VarHandle" ∧ (parseMethodDescriptor y_w_worthiestFuse.desc).map (fun d => d.parameters.length) = some 2 := by decide +kernel
def y_w_lotAfter : MethodName := ⟨"WhichSwitch", "lotAfter", "(J)J"⟩
theorem hc_w_lotAfter : Cond.code y_w_lotAfter prog_1_method_86_code 2 (some .long) ∈ q_tb := q_inT5 20 rfl rfl
theorem hi_w_lotAfter : Cond.initialized y_w_lotAfter.cls ∈ q_tb := q_inT1 1 rfl rfl
theorem hs_w_lotAfter : Cond.static y_w_lotAfter ∈ q_tb := q_inT5 19 rfl rfl
theorem hy_w_lotAfter : y_w_lotAfter.cls ≠ "java/lang/invoke/MethodHandle" ∧ y_w_lotAfter.cls ≠ "java/lang/invoke/VarHandle" ∧ (parseMethodDescriptor y_w_lotAfter.desc).map (fun d => d.parameters.length) = some 1 := by decide +kernel
def y_moment_takeFrom : MethodName := ⟨"WhichSwitch$Moment", "takeFrom", "(LWhichSwitch$Moment;)V"⟩
theorem hc_moment_takeFrom : Cond.code y_moment_takeFrom prog_6_method_2_code 3 none ∈ q_tb := q_inT5 31 rfl rfl
theorem hi_moment_takeFrom : Cond.initialized y_moment_takeFrom.cls ∈ q_tb := q_inT1 2 rfl rfl
theorem hn_moment_takeFrom : Cond.instanceMethod y_moment_takeFrom ∈ q_tb := q_inT5 30 rfl rfl
theorem hz_moment_takeFrom : Cond.selects y_moment_takeFrom.cls y_moment_takeFrom y_moment_takeFrom ∈ q_tb := q_inP5 13 rfl
theorem hy_moment_takeFrom : y_moment_takeFrom.cls ≠ "java/lang/invoke/MethodHandle" ∧ y_moment_takeFrom.cls ≠ "java/lang/invoke/VarHandle" ∧ (parseMethodDescriptor y_moment_takeFrom.desc).map (fun d => d.parameters.length) = some 1 := by decide +kernel
def y_ask_takeFrom : MethodName := ⟨"WhichSwitch$Ask", "takeFrom", "(LWhichSwitch$Ask;)V"⟩
theorem hc_ask_takeFrom : Cond.code y_ask_takeFrom prog_2_method_2_code 2 none ∈ q_tb := q_inT5 36 rfl rfl
theorem hi_ask_takeFrom : Cond.initialized y_ask_takeFrom.cls ∈ q_tb := q_inT1 3 rfl rfl
theorem hn_ask_takeFrom : Cond.instanceMethod y_ask_takeFrom ∈ q_tb := q_inT5 35 rfl rfl
theorem hz_ask_takeFrom : Cond.selects y_ask_takeFrom.cls y_ask_takeFrom y_ask_takeFrom ∈ q_tb := q_inP5 14 rfl
theorem hy_ask_takeFrom : y_ask_takeFrom.cls ≠ "java/lang/invoke/MethodHandle" ∧ y_ask_takeFrom.cls ≠ "java/lang/invoke/VarHandle" ∧ (parseMethodDescriptor y_ask_takeFrom.desc).map (fun d => d.parameters.length) = some 1 := by decide +kernel
def y_sheet_become : MethodName := ⟨"WhichSwitch$Sheet", "become", "(II)V"⟩
theorem hc_sheet_become : Cond.code y_sheet_become prog_8_method_2_code 4 none ∈ q_tb := q_inT5 48 rfl rfl
theorem hi_sheet_become : Cond.initialized y_sheet_become.cls ∈ q_tb := q_inT1 11 rfl rfl
theorem hn_sheet_become : Cond.instanceMethod y_sheet_become ∈ q_tb := q_inT5 47 rfl rfl
theorem hz_sheet_become : Cond.selects y_sheet_become.cls y_sheet_become y_sheet_become ∈ q_tb := q_inP5 15 rfl
theorem hy_sheet_become : y_sheet_become.cls ≠ "java/lang/invoke/MethodHandle" ∧ y_sheet_become.cls ≠ "java/lang/invoke/VarHandle" ∧ (parseMethodDescriptor y_sheet_become.desc).map (fun d => d.parameters.length) = some 2 := by decide +kernel
def y_sheet_write : MethodName := ⟨"WhichSwitch$Sheet", "write", "(II)V"⟩
theorem hc_sheet_write : Cond.code y_sheet_write prog_8_method_4_code 3 none ∈ q_tb := q_inT5 56 rfl rfl
theorem hi_sheet_write : Cond.initialized y_sheet_write.cls ∈ q_tb := q_inT1 11 rfl rfl
theorem hn_sheet_write : Cond.instanceMethod y_sheet_write ∈ q_tb := q_inT5 55 rfl rfl
theorem hz_sheet_write : Cond.selects y_sheet_write.cls y_sheet_write y_sheet_write ∈ q_tb := q_inP6 0 rfl
theorem hy_sheet_write : y_sheet_write.cls ≠ "java/lang/invoke/MethodHandle" ∧ y_sheet_write.cls ≠ "java/lang/invoke/VarHandle" ∧ (parseMethodDescriptor y_sheet_write.desc).map (fun d => d.parameters.length) = some 2 := by decide +kernel
def y_sheet_holds : MethodName := ⟨"WhichSwitch$Sheet", "holds", "(II)Z"⟩
theorem hc_sheet_holds : Cond.code y_sheet_holds prog_8_method_5_code 3 (some .boolean) ∈ q_tb := q_inT5 64 rfl rfl
theorem hi_sheet_holds : Cond.initialized y_sheet_holds.cls ∈ q_tb := q_inT1 11 rfl rfl
theorem hn_sheet_holds : Cond.instanceMethod y_sheet_holds ∈ q_tb := q_inT5 63 rfl rfl
theorem hz_sheet_holds : Cond.selects y_sheet_holds.cls y_sheet_holds y_sheet_holds ∈ q_tb := q_inP6 1 rfl
theorem hy_sheet_holds : y_sheet_holds.cls ≠ "java/lang/invoke/MethodHandle" ∧ y_sheet_holds.cls ≠ "java/lang/invoke/VarHandle" ∧ (parseMethodDescriptor y_sheet_holds.desc).map (fun d => d.parameters.length) = some 2 := by decide +kernel
def y_w_lamp : MethodName := ⟨"WhichSwitch", "lamp", "(IIII)I"⟩
theorem hc_w_lamp : Cond.code y_w_lamp prog_1_method_6_code 5 (some .int) ∈ q_tb := q_inT3 66 rfl rfl
theorem hi_w_lamp : Cond.initialized y_w_lamp.cls ∈ q_tb := q_inT1 1 rfl rfl
theorem hn_w_lamp : Cond.instanceMethod y_w_lamp ∈ q_tb := q_inT3 64 rfl rfl
theorem hz_w_lamp : Cond.selects y_w_lamp.cls y_w_lamp y_w_lamp ∈ q_tb := q_inT3 65 rfl rfl
theorem hy_w_lamp : y_w_lamp.cls ≠ "java/lang/invoke/MethodHandle" ∧ y_w_lamp.cls ≠ "java/lang/invoke/VarHandle" ∧ (parseMethodDescriptor y_w_lamp.desc).map (fun d => d.parameters.length) = some 4 := by decide +kernel
def y_w_takenFuse : MethodName := ⟨"WhichSwitch", "takenFuse", "(II)I"⟩
theorem hc_w_takenFuse : Cond.code y_w_takenFuse prog_1_method_92_code 3 (some .int) ∈ q_tb := q_inT5 78 rfl rfl
theorem hi_w_takenFuse : Cond.initialized y_w_takenFuse.cls ∈ q_tb := q_inT1 1 rfl rfl
theorem hn_w_takenFuse : Cond.instanceMethod y_w_takenFuse ∈ q_tb := q_inT5 77 rfl rfl
theorem hz_w_takenFuse : Cond.selects y_w_takenFuse.cls y_w_takenFuse y_w_takenFuse ∈ q_tb := q_inP6 2 rfl
theorem hy_w_takenFuse : y_w_takenFuse.cls ≠ "java/lang/invoke/MethodHandle" ∧ y_w_takenFuse.cls ≠ "java/lang/invoke/VarHandle" ∧ (parseMethodDescriptor y_w_takenFuse.desc).map (fun d => d.parameters.length) = some 2 := by decide +kernel
def y_lamp_isA : MethodName := ⟨"WhichSwitch$Lamp", "isA", "(I)Z"⟩
theorem hc_lamp_isA : Cond.code y_lamp_isA prog_4_method_3_code 2 (some .boolean) ∈ q_tb := q_inT5 82 rfl rfl
theorem hi_lamp_isA : Cond.initialized y_lamp_isA.cls ∈ q_tb := q_inT1 9 rfl rfl
theorem hn_lamp_isA : Cond.instanceMethod y_lamp_isA ∈ q_tb := q_inT5 81 rfl rfl
theorem hz_lamp_isA : Cond.selects y_lamp_isA.cls y_lamp_isA y_lamp_isA ∈ q_tb := q_inP6 3 rfl
theorem hy_lamp_isA : y_lamp_isA.cls ≠ "java/lang/invoke/MethodHandle" ∧ y_lamp_isA.cls ≠ "java/lang/invoke/VarHandle" ∧ (parseMethodDescriptor y_lamp_isA.desc).map (fun d => d.parameters.length) = some 1 := by decide +kernel
def y_r_first : MethodName := ⟨"WhichSwitchModel", "first", "(IIIII)V"⟩
theorem hc_r_first : Cond.code y_r_first prog_13_method_2_code 6 none ∈ q_tb := q_inT5 106 rfl rfl
theorem hi_r_first : Cond.initialized y_r_first.cls ∈ q_tb := q_inT1 19 rfl rfl
theorem hn_r_first : Cond.instanceMethod y_r_first ∈ q_tb := q_inT5 105 rfl rfl
theorem hz_r_first : Cond.selects y_r_first.cls y_r_first y_r_first ∈ q_tb := q_inP6 4 rfl
theorem hy_r_first : y_r_first.cls ≠ "java/lang/invoke/MethodHandle" ∧ y_r_first.cls ≠ "java/lang/invoke/VarHandle" ∧ (parseMethodDescriptor y_r_first.desc).map (fun d => d.parameters.length) = some 5 := by decide +kernel
def y_r_in : MethodName := ⟨"WhichSwitchModel", "in", "(III)Z"⟩
theorem hc_r_in : Cond.code y_r_in prog_13_method_4_code 3 (some .boolean) ∈ q_tb := q_inT6 60 rfl rfl
theorem hi_r_in : Cond.initialized y_r_in.cls ∈ q_tb := q_inT1 19 rfl rfl
theorem hs_r_in : Cond.static y_r_in ∈ q_tb := q_inT6 59 rfl rfl
theorem hy_r_in : y_r_in.cls ≠ "java/lang/invoke/MethodHandle" ∧ y_r_in.cls ≠ "java/lang/invoke/VarHandle" ∧ (parseMethodDescriptor y_r_in.desc).map (fun d => d.parameters.length) = some 3 := by decide +kernel
def y_r_areFuses : MethodName := ⟨"WhichSwitchModel", "areFuses", "(I)Z"⟩
theorem hc_r_areFuses : Cond.code y_r_areFuses prog_13_method_7_code 2 (some .boolean) ∈ q_tb := q_inT6 68 rfl rfl
theorem hi_r_areFuses : Cond.initialized y_r_areFuses.cls ∈ q_tb := q_inT1 19 rfl rfl
theorem hn_r_areFuses : Cond.instanceMethod y_r_areFuses ∈ q_tb := q_inT6 67 rfl rfl
theorem hz_r_areFuses : Cond.selects y_r_areFuses.cls y_r_areFuses y_r_areFuses ∈ q_tb := q_inP6 5 rfl
theorem hy_r_areFuses : y_r_areFuses.cls ≠ "java/lang/invoke/MethodHandle" ∧ y_r_areFuses.cls ≠ "java/lang/invoke/VarHandle" ∧ (parseMethodDescriptor y_r_areFuses.desc).map (fun d => d.parameters.length) = some 1 := by decide +kernel
def y_r_count : MethodName := ⟨"WhichSwitchModel", "count", "(I)I"⟩
theorem hc_r_count : Cond.code y_r_count prog_13_method_12_code 2 (some .int) ∈ q_tb := q_inT6 72 rfl rfl
theorem hi_r_count : Cond.initialized y_r_count.cls ∈ q_tb := q_inT1 19 rfl rfl
theorem hn_r_count : Cond.instanceMethod y_r_count ∈ q_tb := q_inT6 70 rfl rfl
theorem hz_r_count : Cond.selects y_r_count.cls y_r_count y_r_count ∈ q_tb := q_inT6 71 rfl rfl
theorem hy_r_count : y_r_count.cls ≠ "java/lang/invoke/MethodHandle" ∧ y_r_count.cls ≠ "java/lang/invoke/VarHandle" ∧ (parseMethodDescriptor y_r_count.desc).map (fun d => d.parameters.length) = some 1 := by decide +kernel
def y_r_isLamp : MethodName := ⟨"WhichSwitchModel", "isLamp", "(I)Z"⟩
theorem hc_r_isLamp : Cond.code y_r_isLamp prog_13_method_5_code 2 (some .boolean) ∈ q_tb := q_inT6 85 rfl rfl
theorem hi_r_isLamp : Cond.initialized y_r_isLamp.cls ∈ q_tb := q_inT1 19 rfl rfl
theorem hn_r_isLamp : Cond.instanceMethod y_r_isLamp ∈ q_tb := q_inT6 84 rfl rfl
theorem hz_r_isLamp : Cond.selects y_r_isLamp.cls y_r_isLamp y_r_isLamp ∈ q_tb := q_inP6 6 rfl
theorem hy_r_isLamp : y_r_isLamp.cls ≠ "java/lang/invoke/MethodHandle" ∧ y_r_isLamp.cls ≠ "java/lang/invoke/VarHandle" ∧ (parseMethodDescriptor y_r_isLamp.desc).map (fun d => d.parameters.length) = some 1 := by decide +kernel
def y_r_next0 : MethodName := ⟨"WhichSwitchModel", "next", "()V"⟩
theorem hc_r_next0 : Cond.code y_r_next0 prog_13_method_17_code 5 none ∈ q_tb := q_inT6 98 rfl rfl
theorem hi_r_next0 : Cond.initialized y_r_next0.cls ∈ q_tb := q_inT1 19 rfl rfl
theorem hn_r_next0 : Cond.instanceMethod y_r_next0 ∈ q_tb := q_inT6 97 rfl rfl
theorem hz_r_next0 : Cond.selects y_r_next0.cls y_r_next0 y_r_next0 ∈ q_tb := q_inP6 7 rfl
theorem hy_r_next0 : y_r_next0.cls ≠ "java/lang/invoke/MethodHandle" ∧ y_r_next0.cls ≠ "java/lang/invoke/VarHandle" ∧ (parseMethodDescriptor y_r_next0.desc).map (fun d => d.parameters.length) = some 0 := by decide +kernel
def y_r_eRead : MethodName := ⟨"WhichSwitchModel", "eRead", "()Z"⟩
theorem hc_r_eRead : Cond.code y_r_eRead prog_13_method_25_code 4 (some .boolean) ∈ q_tb := q_inT6 106 rfl rfl
theorem hi_r_eRead : Cond.initialized y_r_eRead.cls ∈ q_tb := q_inT1 19 rfl rfl
theorem hn_r_eRead : Cond.instanceMethod y_r_eRead ∈ q_tb := q_inT6 105 rfl rfl
theorem hz_r_eRead : Cond.selects y_r_eRead.cls y_r_eRead y_r_eRead ∈ q_tb := q_inP6 9 rfl
theorem hy_r_eRead : y_r_eRead.cls ≠ "java/lang/invoke/MethodHandle" ∧ y_r_eRead.cls ≠ "java/lang/invoke/VarHandle" ∧ (parseMethodDescriptor y_r_eRead.desc).map (fun d => d.parameters.length) = some 0 := by decide +kernel
def y_r_letters : MethodName := ⟨"WhichSwitchModel", "letters", "()J"⟩
theorem hc_r_letters : Cond.code y_r_letters prog_13_method_16_code 4 (some .long) ∈ q_tb := q_inT6 102 rfl rfl
theorem hi_r_letters : Cond.initialized y_r_letters.cls ∈ q_tb := q_inT1 19 rfl rfl
theorem hn_r_letters : Cond.instanceMethod y_r_letters ∈ q_tb := q_inT6 101 rfl rfl
theorem hz_r_letters : Cond.selects y_r_letters.cls y_r_letters y_r_letters ∈ q_tb := q_inP6 8 rfl
theorem hy_r_letters : y_r_letters.cls ≠ "java/lang/invoke/MethodHandle" ∧ y_r_letters.cls ≠ "java/lang/invoke/VarHandle" ∧ (parseMethodDescriptor y_r_letters.desc).map (fun d => d.parameters.length) = some 0 := by decide +kernel
def y_r_puts : MethodName := ⟨"WhichSwitchModel", "puts", "(I)V"⟩
theorem hc_r_puts : Cond.code y_r_puts prog_13_method_19_code 2 none ∈ q_tb := q_inT6 111 rfl rfl
theorem hi_r_puts : Cond.initialized y_r_puts.cls ∈ q_tb := q_inT1 19 rfl rfl
theorem hn_r_puts : Cond.instanceMethod y_r_puts ∈ q_tb := q_inT6 110 rfl rfl
theorem hz_r_puts : Cond.selects y_r_puts.cls y_r_puts y_r_puts ∈ q_tb := q_inP6 10 rfl
theorem hy_r_puts : y_r_puts.cls ≠ "java/lang/invoke/MethodHandle" ∧ y_r_puts.cls ≠ "java/lang/invoke/VarHandle" ∧ (parseMethodDescriptor y_r_puts.desc).map (fun d => d.parameters.length) = some 1 := by decide +kernel
def y_r_unwinds : MethodName := ⟨"WhichSwitchModel", "unwinds", "(I)V"⟩
theorem hc_r_unwinds : Cond.code y_r_unwinds prog_13_method_20_code 3 none ∈ q_tb := q_inT6 115 rfl rfl
theorem hi_r_unwinds : Cond.initialized y_r_unwinds.cls ∈ q_tb := q_inT1 19 rfl rfl
theorem hn_r_unwinds : Cond.instanceMethod y_r_unwinds ∈ q_tb := q_inT6 114 rfl rfl
theorem hz_r_unwinds : Cond.selects y_r_unwinds.cls y_r_unwinds y_r_unwinds ∈ q_tb := q_inP6 11 rfl
theorem hy_r_unwinds : y_r_unwinds.cls ≠ "java/lang/invoke/MethodHandle" ∧ y_r_unwinds.cls ≠ "java/lang/invoke/VarHandle" ∧ (parseMethodDescriptor y_r_unwinds.desc).map (fun d => d.parameters.length) = some 1 := by decide +kernel
def y_r_opensOne : MethodName := ⟨"WhichSwitchModel", "opensOne", "(I)Z"⟩
theorem hc_r_opensOne : Cond.code y_r_opensOne prog_13_method_22_code 2 (some .boolean) ∈ q_tb := q_inT6 122 rfl rfl
theorem hi_r_opensOne : Cond.initialized y_r_opensOne.cls ∈ q_tb := q_inT1 19 rfl rfl
theorem hn_r_opensOne : Cond.instanceMethod y_r_opensOne ∈ q_tb := q_inT6 121 rfl rfl
theorem hz_r_opensOne : Cond.selects y_r_opensOne.cls y_r_opensOne y_r_opensOne ∈ q_tb := q_inP6 12 rfl
theorem hy_r_opensOne : y_r_opensOne.cls ≠ "java/lang/invoke/MethodHandle" ∧ y_r_opensOne.cls ≠ "java/lang/invoke/VarHandle" ∧ (parseMethodDescriptor y_r_opensOne.desc).map (fun d => d.parameters.length) = some 1 := by decide +kernel
def y_r_signOf : MethodName := ⟨"WhichSwitchModel", "signOf", "()I"⟩
theorem hc_r_signOf : Cond.code y_r_signOf prog_13_method_24_code 1 (some .int) ∈ q_tb := q_inT6 130 rfl rfl
theorem hi_r_signOf : Cond.initialized y_r_signOf.cls ∈ q_tb := q_inT1 19 rfl rfl
theorem hn_r_signOf : Cond.instanceMethod y_r_signOf ∈ q_tb := q_inT6 129 rfl rfl
theorem hz_r_signOf : Cond.selects y_r_signOf.cls y_r_signOf y_r_signOf ∈ q_tb := q_inP6 14 rfl
theorem hy_r_signOf : y_r_signOf.cls ≠ "java/lang/invoke/MethodHandle" ∧ y_r_signOf.cls ≠ "java/lang/invoke/VarHandle" ∧ (parseMethodDescriptor y_r_signOf.desc).map (fun d => d.parameters.length) = some 0 := by decide +kernel
def y_r_between : MethodName := ⟨"WhichSwitchModel", "between", "(I)Z"⟩
theorem hc_r_between : Cond.code y_r_between prog_13_method_23_code 2 (some .boolean) ∈ q_tb := q_inT6 134 rfl rfl
theorem hi_r_between : Cond.initialized y_r_between.cls ∈ q_tb := q_inT1 19 rfl rfl
theorem hn_r_between : Cond.instanceMethod y_r_between ∈ q_tb := q_inT6 133 rfl rfl
theorem hz_r_between : Cond.selects y_r_between.cls y_r_between y_r_between ∈ q_tb := q_inP6 15 rfl
theorem hy_r_between : y_r_between.cls ≠ "java/lang/invoke/MethodHandle" ∧ y_r_between.cls ≠ "java/lang/invoke/VarHandle" ∧ (parseMethodDescriptor y_r_between.desc).map (fun d => d.parameters.length) = some 1 := by decide +kernel
def y_r_rank : MethodName := ⟨"WhichSwitchModel", "rank", "(I)I"⟩
theorem hc_r_rank : Cond.code y_r_rank prog_13_method_18_code 1 (some .int) ∈ q_tb := q_inT6 118 rfl rfl
theorem hi_r_rank : Cond.initialized y_r_rank.cls ∈ q_tb := q_inT1 19 rfl rfl
theorem hs_r_rank : Cond.static y_r_rank ∈ q_tb := q_inT6 117 rfl rfl
theorem hy_r_rank : y_r_rank.cls ≠ "java/lang/invoke/MethodHandle" ∧ y_r_rank.cls ≠ "java/lang/invoke/VarHandle" ∧ (parseMethodDescriptor y_r_rank.desc).map (fun d => d.parameters.length) = some 1 := by decide +kernel
def y_r_holds : MethodName := ⟨"WhichSwitchModel", "holds", "(I)V"⟩
theorem hc_r_holds : Cond.code y_r_holds prog_13_method_21_code 2 none ∈ q_tb := q_inT6 126 rfl rfl
theorem hi_r_holds : Cond.initialized y_r_holds.cls ∈ q_tb := q_inT1 19 rfl rfl
theorem hn_r_holds : Cond.instanceMethod y_r_holds ∈ q_tb := q_inT6 125 rfl rfl
theorem hz_r_holds : Cond.selects y_r_holds.cls y_r_holds y_r_holds ∈ q_tb := q_inP6 13 rfl
theorem hy_r_holds : y_r_holds.cls ≠ "java/lang/invoke/MethodHandle" ∧ y_r_holds.cls ≠ "java/lang/invoke/VarHandle" ∧ (parseMethodDescriptor y_r_holds.desc).map (fun d => d.parameters.length) = some 1 := by decide +kernel
def y_r_tellsFuses : MethodName := ⟨"WhichSwitchModel", "tellsFuses", "(I)I"⟩
theorem hc_r_tellsFuses : Cond.code y_r_tellsFuses prog_13_method_31_code 4 (some .int) ∈ q_tb := q_inT6 146 rfl rfl
theorem hi_r_tellsFuses : Cond.initialized y_r_tellsFuses.cls ∈ q_tb := q_inT1 19 rfl rfl
theorem hn_r_tellsFuses : Cond.instanceMethod y_r_tellsFuses ∈ q_tb := q_inT6 145 rfl rfl
theorem hz_r_tellsFuses : Cond.selects y_r_tellsFuses.cls y_r_tellsFuses y_r_tellsFuses ∈ q_tb := q_inP7 0 rfl
theorem hy_r_tellsFuses : y_r_tellsFuses.cls ≠ "java/lang/invoke/MethodHandle" ∧ y_r_tellsFuses.cls ≠ "java/lang/invoke/VarHandle" ∧ (parseMethodDescriptor y_r_tellsFuses.desc).map (fun d => d.parameters.length) = some 1 := by decide +kernel
def y_r_isHouse : MethodName := ⟨"WhichSwitchModel", "isHouse", "(I)Z"⟩
theorem hc_r_isHouse : Cond.code y_r_isHouse prog_13_method_6_code 2 (some .boolean) ∈ q_tb := q_inT6 154 rfl rfl
theorem hi_r_isHouse : Cond.initialized y_r_isHouse.cls ∈ q_tb := q_inT1 19 rfl rfl
theorem hn_r_isHouse : Cond.instanceMethod y_r_isHouse ∈ q_tb := q_inT6 153 rfl rfl
theorem hz_r_isHouse : Cond.selects y_r_isHouse.cls y_r_isHouse y_r_isHouse ∈ q_tb := q_inP7 1 rfl
theorem hy_r_isHouse : y_r_isHouse.cls ≠ "java/lang/invoke/MethodHandle" ∧ y_r_isHouse.cls ≠ "java/lang/invoke/VarHandle" ∧ (parseMethodDescriptor y_r_isHouse.desc).map (fun d => d.parameters.length) = some 1 := by decide +kernel
def y_r_litNow : MethodName := ⟨"WhichSwitchModel", "litNow", "(I)I"⟩
theorem hc_r_litNow : Cond.code y_r_litNow prog_13_method_37_code 2 (some .int) ∈ q_tb := q_inT6 162 rfl rfl
theorem hi_r_litNow : Cond.initialized y_r_litNow.cls ∈ q_tb := q_inT1 19 rfl rfl
theorem hn_r_litNow : Cond.instanceMethod y_r_litNow ∈ q_tb := q_inT6 161 rfl rfl
theorem hz_r_litNow : Cond.selects y_r_litNow.cls y_r_litNow y_r_litNow ∈ q_tb := q_inP7 2 rfl
theorem hy_r_litNow : y_r_litNow.cls ≠ "java/lang/invoke/MethodHandle" ∧ y_r_litNow.cls ≠ "java/lang/invoke/VarHandle" ∧ (parseMethodDescriptor y_r_litNow.desc).map (fun d => d.parameters.length) = some 1 := by decide +kernel
def y_r_lit : MethodName := ⟨"WhichSwitchModel", "lit", "(IIII)I"⟩
theorem hc_r_lit : Cond.code y_r_lit prog_13_method_36_code 7 (some .int) ∈ q_tb := q_inT6 166 rfl rfl
theorem hi_r_lit : Cond.initialized y_r_lit.cls ∈ q_tb := q_inT1 19 rfl rfl
theorem hn_r_lit : Cond.instanceMethod y_r_lit ∈ q_tb := q_inT6 165 rfl rfl
theorem hz_r_lit : Cond.selects y_r_lit.cls y_r_lit y_r_lit ∈ q_tb := q_inP7 3 rfl
theorem hy_r_lit : y_r_lit.cls ≠ "java/lang/invoke/MethodHandle" ∧ y_r_lit.cls ≠ "java/lang/invoke/VarHandle" ∧ (parseMethodDescriptor y_r_lit.desc).map (fun d => d.parameters.length) = some 4 := by decide +kernel
def y_r_isFed : MethodName := ⟨"WhichSwitchModel", "isFed", "(III)Z"⟩
theorem hc_r_isFed : Cond.code y_r_isFed prog_13_method_34_code 4 (some .boolean) ∈ q_tb := q_inT6 170 rfl rfl
theorem hi_r_isFed : Cond.initialized y_r_isFed.cls ∈ q_tb := q_inT1 19 rfl rfl
theorem hn_r_isFed : Cond.instanceMethod y_r_isFed ∈ q_tb := q_inT6 169 rfl rfl
theorem hz_r_isFed : Cond.selects y_r_isFed.cls y_r_isFed y_r_isFed ∈ q_tb := q_inP7 4 rfl
theorem hy_r_isFed : y_r_isFed.cls ≠ "java/lang/invoke/MethodHandle" ∧ y_r_isFed.cls ≠ "java/lang/invoke/VarHandle" ∧ (parseMethodDescriptor y_r_isFed.desc).map (fun d => d.parameters.length) = some 3 := by decide +kernel
def y_r_isOn : MethodName := ⟨"WhichSwitchModel", "isOn", "(III)Z"⟩
theorem hc_r_isOn : Cond.code y_r_isOn prog_13_method_35_code 6 (some .boolean) ∈ q_tb := q_inT6 174 rfl rfl
theorem hi_r_isOn : Cond.initialized y_r_isOn.cls ∈ q_tb := q_inT1 19 rfl rfl
theorem hn_r_isOn : Cond.instanceMethod y_r_isOn ∈ q_tb := q_inT6 173 rfl rfl
theorem hz_r_isOn : Cond.selects y_r_isOn.cls y_r_isOn y_r_isOn ∈ q_tb := q_inP7 5 rfl
theorem hy_r_isOn : y_r_isOn.cls ≠ "java/lang/invoke/MethodHandle" ∧ y_r_isOn.cls ≠ "java/lang/invoke/VarHandle" ∧ (parseMethodDescriptor y_r_isOn.desc).map (fun d => d.parameters.length) = some 3 := by decide +kernel
def y_r_brightIn : MethodName := ⟨"WhichSwitchModel", "brightIn", "(II)I"⟩
theorem hc_r_brightIn : Cond.code y_r_brightIn prog_13_method_40_code 4 (some .int) ∈ q_tb := q_inT6 182 rfl rfl
theorem hi_r_brightIn : Cond.initialized y_r_brightIn.cls ∈ q_tb := q_inT1 19 rfl rfl
theorem hn_r_brightIn : Cond.instanceMethod y_r_brightIn ∈ q_tb := q_inT6 181 rfl rfl
theorem hz_r_brightIn : Cond.selects y_r_brightIn.cls y_r_brightIn y_r_brightIn ∈ q_tb := q_inP7 6 rfl
theorem hy_r_brightIn : y_r_brightIn.cls ≠ "java/lang/invoke/MethodHandle" ∧ y_r_brightIn.cls ≠ "java/lang/invoke/VarHandle" ∧ (parseMethodDescriptor y_r_brightIn.desc).map (fun d => d.parameters.length) = some 2 := by decide +kernel
def y_r_rowOf : MethodName := ⟨"WhichSwitchModel", "rowOf", "(II)I"⟩
theorem hc_r_rowOf : Cond.code y_r_rowOf prog_13_method_39_code 5 (some .int) ∈ q_tb := q_inT6 186 rfl rfl
theorem hi_r_rowOf : Cond.initialized y_r_rowOf.cls ∈ q_tb := q_inT1 19 rfl rfl
theorem hn_r_rowOf : Cond.instanceMethod y_r_rowOf ∈ q_tb := q_inT6 185 rfl rfl
theorem hz_r_rowOf : Cond.selects y_r_rowOf.cls y_r_rowOf y_r_rowOf ∈ q_tb := q_inP7 7 rfl
theorem hy_r_rowOf : y_r_rowOf.cls ≠ "java/lang/invoke/MethodHandle" ∧ y_r_rowOf.cls ≠ "java/lang/invoke/VarHandle" ∧ (parseMethodDescriptor y_r_rowOf.desc).map (fun d => d.parameters.length) = some 2 := by decide +kernel
def y_r_says : MethodName := ⟨"WhichSwitchModel", "says", "(III)I"⟩
theorem hc_r_says : Cond.code y_r_says prog_13_method_30_code 4 (some .int) ∈ q_tb := q_inT6 190 rfl rfl
theorem hi_r_says : Cond.initialized y_r_says.cls ∈ q_tb := q_inT1 19 rfl rfl
theorem hn_r_says : Cond.instanceMethod y_r_says ∈ q_tb := q_inT6 189 rfl rfl
theorem hz_r_says : Cond.selects y_r_says.cls y_r_says y_r_says ∈ q_tb := q_inP7 8 rfl
theorem hy_r_says : y_r_says.cls ≠ "java/lang/invoke/MethodHandle" ∧ y_r_says.cls ≠ "java/lang/invoke/VarHandle" ∧ (parseMethodDescriptor y_r_says.desc).map (fun d => d.parameters.length) = some 3 := by decide +kernel
def y_r_worth : MethodName := ⟨"WhichSwitchModel", "worth", "(I)I"⟩
theorem hc_r_worth : Cond.code y_r_worth prog_13_method_28_code 5 (some .int) ∈ q_tb := q_inT6 194 rfl rfl
theorem hi_r_worth : Cond.initialized y_r_worth.cls ∈ q_tb := q_inT1 19 rfl rfl
theorem hn_r_worth : Cond.instanceMethod y_r_worth ∈ q_tb := q_inT6 193 rfl rfl
theorem hz_r_worth : Cond.selects y_r_worth.cls y_r_worth y_r_worth ∈ q_tb := q_inP7 9 rfl
theorem hy_r_worth : y_r_worth.cls ≠ "java/lang/invoke/MethodHandle" ∧ y_r_worth.cls ≠ "java/lang/invoke/VarHandle" ∧ (parseMethodDescriptor y_r_worth.desc).map (fun d => d.parameters.length) = some 1 := by decide +kernel
def y_r_two : MethodName := ⟨"WhichSwitchModel", "two", "(III)I"⟩
theorem hc_r_two : Cond.code y_r_two prog_13_method_27_code 3 (some .int) ∈ q_tb := q_inT6 197 rfl rfl
theorem hi_r_two : Cond.initialized y_r_two.cls ∈ q_tb := q_inT1 19 rfl rfl
theorem hs_r_two : Cond.static y_r_two ∈ q_tb := q_inT6 196 rfl rfl
theorem hy_r_two : y_r_two.cls ≠ "java/lang/invoke/MethodHandle" ∧ y_r_two.cls ≠ "java/lang/invoke/VarHandle" ∧ (parseMethodDescriptor y_r_two.desc).map (fun d => d.parameters.length) = some 3 := by decide +kernel
def y_r_areThere : MethodName := ⟨"WhichSwitchModel", "areThere", "(II)Z"⟩
theorem hc_r_areThere : Cond.code y_r_areThere prog_13_method_45_code 3 (some .boolean) ∈ q_tb := q_inT6 213 rfl rfl
theorem hi_r_areThere : Cond.initialized y_r_areThere.cls ∈ q_tb := q_inT1 19 rfl rfl
theorem hn_r_areThere : Cond.instanceMethod y_r_areThere ∈ q_tb := q_inT6 212 rfl rfl
theorem hz_r_areThere : Cond.selects y_r_areThere.cls y_r_areThere y_r_areThere ∈ q_tb := q_inP7 10 rfl
theorem hy_r_areThere : y_r_areThere.cls ≠ "java/lang/invoke/MethodHandle" ∧ y_r_areThere.cls ≠ "java/lang/invoke/VarHandle" ∧ (parseMethodDescriptor y_r_areThere.desc).map (fun d => d.parameters.length) = some 2 := by decide +kernel
def y_r_areRooms : MethodName := ⟨"WhichSwitchModel", "areRooms", "(I)Z"⟩
theorem hc_r_areRooms : Cond.code y_r_areRooms prog_13_method_8_code 1 (some .boolean) ∈ q_tb := q_inT6 216 rfl rfl
theorem hi_r_areRooms : Cond.initialized y_r_areRooms.cls ∈ q_tb := q_inT1 19 rfl rfl
theorem hs_r_areRooms : Cond.static y_r_areRooms ∈ q_tb := q_inT6 215 rfl rfl
theorem hy_r_areRooms : y_r_areRooms.cls ≠ "java/lang/invoke/MethodHandle" ∧ y_r_areRooms.cls ≠ "java/lang/invoke/VarHandle" ∧ (parseMethodDescriptor y_r_areRooms.desc).map (fun d => d.parameters.length) = some 1 := by decide +kernel
def y_r_lampsIn : MethodName := ⟨"WhichSwitchModel", "lampsIn", "(I)I"⟩
theorem hc_r_lampsIn : Cond.code y_r_lampsIn prog_13_method_44_code 4 (some .int) ∈ q_tb := q_inT6 220 rfl rfl
theorem hi_r_lampsIn : Cond.initialized y_r_lampsIn.cls ∈ q_tb := q_inT1 19 rfl rfl
theorem hn_r_lampsIn : Cond.instanceMethod y_r_lampsIn ∈ q_tb := q_inT6 219 rfl rfl
theorem hz_r_lampsIn : Cond.selects y_r_lampsIn.cls y_r_lampsIn y_r_lampsIn ∈ q_tb := q_inP7 11 rfl
theorem hy_r_lampsIn : y_r_lampsIn.cls ≠ "java/lang/invoke/MethodHandle" ∧ y_r_lampsIn.cls ≠ "java/lang/invoke/VarHandle" ∧ (parseMethodDescriptor y_r_lampsIn.desc).map (fun d => d.parameters.length) = some 1 := by decide +kernel
def y_r_amissIn : MethodName := ⟨"WhichSwitchModel", "amissIn", "(II)I"⟩
theorem hc_r_amissIn : Cond.code y_r_amissIn prog_13_method_48_code 3 (some .int) ∈ q_tb := q_inT6 232 rfl rfl
theorem hi_r_amissIn : Cond.initialized y_r_amissIn.cls ∈ q_tb := q_inT1 19 rfl rfl
theorem hn_r_amissIn : Cond.instanceMethod y_r_amissIn ∈ q_tb := q_inT6 231 rfl rfl
theorem hz_r_amissIn : Cond.selects y_r_amissIn.cls y_r_amissIn y_r_amissIn ∈ q_tb := q_inP7 12 rfl
theorem hy_r_amissIn : y_r_amissIn.cls ≠ "java/lang/invoke/MethodHandle" ∧ y_r_amissIn.cls ≠ "java/lang/invoke/VarHandle" ∧ (parseMethodDescriptor y_r_amissIn.desc).map (fun d => d.parameters.length) = some 2 := by decide +kernel
def y_r_missOf : MethodName := ⟨"WhichSwitchModel", "missOf", "(I)I"⟩
theorem hc_r_missOf : Cond.code y_r_missOf prog_13_method_50_code 4 (some .int) ∈ q_tb := q_inT7 0 rfl rfl
theorem hi_r_missOf : Cond.initialized y_r_missOf.cls ∈ q_tb := q_inT1 19 rfl rfl
theorem hn_r_missOf : Cond.instanceMethod y_r_missOf ∈ q_tb := q_inT6 239 rfl rfl
theorem hz_r_missOf : Cond.selects y_r_missOf.cls y_r_missOf y_r_missOf ∈ q_tb := q_inP7 13 rfl
theorem hy_r_missOf : y_r_missOf.cls ≠ "java/lang/invoke/MethodHandle" ∧ y_r_missOf.cls ≠ "java/lang/invoke/VarHandle" ∧ (parseMethodDescriptor y_r_missOf.desc).map (fun d => d.parameters.length) = some 1 := by decide +kernel
def y_r_ones : MethodName := ⟨"WhichSwitchModel", "ones", "(I)I"⟩
theorem hc_r_ones : Cond.code y_r_ones prog_13_method_9_code 3 (some .int) ∈ q_tb := q_inT7 3 rfl rfl
theorem hi_r_ones : Cond.initialized y_r_ones.cls ∈ q_tb := q_inT1 19 rfl rfl
theorem hs_r_ones : Cond.static y_r_ones ∈ q_tb := q_inT7 2 rfl rfl
theorem hy_r_ones : y_r_ones.cls ≠ "java/lang/invoke/MethodHandle" ∧ y_r_ones.cls ≠ "java/lang/invoke/VarHandle" ∧ (parseMethodDescriptor y_r_ones.desc).map (fun d => d.parameters.length) = some 1 := by decide +kernel
def y_r_nearTo : MethodName := ⟨"WhichSwitchModel", "nearTo", "(I)I"⟩
theorem hc_r_nearTo : Cond.code y_r_nearTo prog_13_method_52_code 4 (some .int) ∈ q_tb := q_inT7 11 rfl rfl
theorem hi_r_nearTo : Cond.initialized y_r_nearTo.cls ∈ q_tb := q_inT1 19 rfl rfl
theorem hn_r_nearTo : Cond.instanceMethod y_r_nearTo ∈ q_tb := q_inT7 10 rfl rfl
theorem hz_r_nearTo : Cond.selects y_r_nearTo.cls y_r_nearTo y_r_nearTo ∈ q_tb := q_inP7 14 rfl
theorem hy_r_nearTo : y_r_nearTo.cls ≠ "java/lang/invoke/MethodHandle" ∧ y_r_nearTo.cls ≠ "java/lang/invoke/VarHandle" ∧ (parseMethodDescriptor y_r_nearTo.desc).map (fun d => d.parameters.length) = some 1 := by decide +kernel
def y_r_kindsOf : MethodName := ⟨"WhichSwitchModel", "kindsOf", "(III)I"⟩
theorem hc_r_kindsOf : Cond.code y_r_kindsOf prog_13_method_56_code 8 (some .int) ∈ q_tb := q_inT7 27 rfl rfl
theorem hi_r_kindsOf : Cond.initialized y_r_kindsOf.cls ∈ q_tb := q_inT1 19 rfl rfl
theorem hn_r_kindsOf : Cond.instanceMethod y_r_kindsOf ∈ q_tb := q_inT7 26 rfl rfl
theorem hz_r_kindsOf : Cond.selects y_r_kindsOf.cls y_r_kindsOf y_r_kindsOf ∈ q_tb := q_inP7 15 rfl
theorem hy_r_kindsOf : y_r_kindsOf.cls ≠ "java/lang/invoke/MethodHandle" ∧ y_r_kindsOf.cls ≠ "java/lang/invoke/VarHandle" ∧ (parseMethodDescriptor y_r_kindsOf.desc).map (fun d => d.parameters.length) = some 3 := by decide +kernel
def y_r_greatest : MethodName := ⟨"WhichSwitchModel", "greatest", "(III)I"⟩
theorem hc_r_greatest : Cond.code y_r_greatest prog_13_method_58_code 7 (some .int) ∈ q_tb := q_inT7 31 rfl rfl
theorem hi_r_greatest : Cond.initialized y_r_greatest.cls ∈ q_tb := q_inT1 19 rfl rfl
theorem hn_r_greatest : Cond.instanceMethod y_r_greatest ∈ q_tb := q_inT7 30 rfl rfl
theorem hz_r_greatest : Cond.selects y_r_greatest.cls y_r_greatest y_r_greatest ∈ q_tb := q_inP8 0 rfl
theorem hy_r_greatest : y_r_greatest.cls ≠ "java/lang/invoke/MethodHandle" ∧ y_r_greatest.cls ≠ "java/lang/invoke/VarHandle" ∧ (parseMethodDescriptor y_r_greatest.desc).map (fun d => d.parameters.length) = some 3 := by decide +kernel
def y_r_likeOf : MethodName := ⟨"WhichSwitchModel", "likeOf", "(II)I"⟩
theorem hc_r_likeOf : Cond.code y_r_likeOf prog_13_method_57_code 5 (some .int) ∈ q_tb := q_inT7 35 rfl rfl
theorem hi_r_likeOf : Cond.initialized y_r_likeOf.cls ∈ q_tb := q_inT1 19 rfl rfl
theorem hn_r_likeOf : Cond.instanceMethod y_r_likeOf ∈ q_tb := q_inT7 34 rfl rfl
theorem hz_r_likeOf : Cond.selects y_r_likeOf.cls y_r_likeOf y_r_likeOf ∈ q_tb := q_inP8 1 rfl
theorem hy_r_likeOf : y_r_likeOf.cls ≠ "java/lang/invoke/MethodHandle" ∧ y_r_likeOf.cls ≠ "java/lang/invoke/VarHandle" ∧ (parseMethodDescriptor y_r_likeOf.desc).map (fun d => d.parameters.length) = some 2 := by decide +kernel
def y_r_nextFor : MethodName := ⟨"WhichSwitchModel", "nextFor", "(III)I"⟩
theorem hc_r_nextFor : Cond.code y_r_nextFor prog_13_method_60_code 7 (some .int) ∈ q_tb := q_inT7 43 rfl rfl
theorem hi_r_nextFor : Cond.initialized y_r_nextFor.cls ∈ q_tb := q_inT1 19 rfl rfl
theorem hn_r_nextFor : Cond.instanceMethod y_r_nextFor ∈ q_tb := q_inT7 42 rfl rfl
theorem hz_r_nextFor : Cond.selects y_r_nextFor.cls y_r_nextFor y_r_nextFor ∈ q_tb := q_inP8 2 rfl
theorem hy_r_nextFor : y_r_nextFor.cls ≠ "java/lang/invoke/MethodHandle" ∧ y_r_nextFor.cls ≠ "java/lang/invoke/VarHandle" ∧ (parseMethodDescriptor y_r_nextFor.desc).map (fun d => d.parameters.length) = some 3 := by decide +kernel
def y_r_sureOf : MethodName := ⟨"WhichSwitchModel", "sureOf", "(I)I"⟩
theorem hc_r_sureOf : Cond.code y_r_sureOf prog_13_method_65_code 5 (some .int) ∈ q_tb := q_inT7 63 rfl rfl
theorem hi_r_sureOf : Cond.initialized y_r_sureOf.cls ∈ q_tb := q_inT1 19 rfl rfl
theorem hn_r_sureOf : Cond.instanceMethod y_r_sureOf ∈ q_tb := q_inT7 62 rfl rfl
theorem hz_r_sureOf : Cond.selects y_r_sureOf.cls y_r_sureOf y_r_sureOf ∈ q_tb := q_inP8 3 rfl
theorem hy_r_sureOf : y_r_sureOf.cls ≠ "java/lang/invoke/MethodHandle" ∧ y_r_sureOf.cls ≠ "java/lang/invoke/VarHandle" ∧ (parseMethodDescriptor y_r_sureOf.desc).map (fun d => d.parameters.length) = some 1 := by decide +kernel
def y_r_liveIn : MethodName := ⟨"WhichSwitchModel", "liveIn", "(III)I"⟩
theorem hc_r_liveIn : Cond.code y_r_liveIn prog_13_method_68_code 6 (some .int) ∈ q_tb := q_inT7 75 rfl rfl
theorem hi_r_liveIn : Cond.initialized y_r_liveIn.cls ∈ q_tb := q_inT1 19 rfl rfl
theorem hn_r_liveIn : Cond.instanceMethod y_r_liveIn ∈ q_tb := q_inT7 74 rfl rfl
theorem hz_r_liveIn : Cond.selects y_r_liveIn.cls y_r_liveIn y_r_liveIn ∈ q_tb := q_inP8 4 rfl
theorem hy_r_liveIn : y_r_liveIn.cls ≠ "java/lang/invoke/MethodHandle" ∧ y_r_liveIn.cls ≠ "java/lang/invoke/VarHandle" ∧ (parseMethodDescriptor y_r_liveIn.desc).map (fun d => d.parameters.length) = some 3 := by decide +kernel
def y_r_sumsOf : MethodName := ⟨"WhichSwitchModel", "sumsOf", "(I)I"⟩
theorem hc_r_sumsOf : Cond.code y_r_sumsOf prog_13_method_73_code 5 (some .int) ∈ q_tb := q_inT7 91 rfl rfl
theorem hi_r_sumsOf : Cond.initialized y_r_sumsOf.cls ∈ q_tb := q_inT1 19 rfl rfl
theorem hn_r_sumsOf : Cond.instanceMethod y_r_sumsOf ∈ q_tb := q_inT7 90 rfl rfl
theorem hz_r_sumsOf : Cond.selects y_r_sumsOf.cls y_r_sumsOf y_r_sumsOf ∈ q_tb := q_inP8 5 rfl
theorem hy_r_sumsOf : y_r_sumsOf.cls ≠ "java/lang/invoke/MethodHandle" ∧ y_r_sumsOf.cls ≠ "java/lang/invoke/VarHandle" ∧ (parseMethodDescriptor y_r_sumsOf.desc).map (fun d => d.parameters.length) = some 1 := by decide +kernel
def y_r_sumOf : MethodName := ⟨"WhichSwitchModel", "sumOf", "(I)I"⟩
theorem hc_r_sumOf : Cond.code y_r_sumOf prog_13_method_72_code 4 (some .int) ∈ q_tb := q_inT7 95 rfl rfl
theorem hi_r_sumOf : Cond.initialized y_r_sumOf.cls ∈ q_tb := q_inT1 19 rfl rfl
theorem hn_r_sumOf : Cond.instanceMethod y_r_sumOf ∈ q_tb := q_inT7 94 rfl rfl
theorem hz_r_sumOf : Cond.selects y_r_sumOf.cls y_r_sumOf y_r_sumOf ∈ q_tb := q_inP8 6 rfl
theorem hy_r_sumOf : y_r_sumOf.cls ≠ "java/lang/invoke/MethodHandle" ∧ y_r_sumOf.cls ≠ "java/lang/invoke/VarHandle" ∧ (parseMethodDescriptor y_r_sumOf.desc).map (fun d => d.parameters.length) = some 1 := by decide +kernel
def y_r_agrees : MethodName := ⟨"WhichSwitchModel", "agrees", "(II)I"⟩
theorem hc_r_agrees : Cond.code y_r_agrees prog_13_method_78_code 5 (some .int) ∈ q_tb := q_inT7 115 rfl rfl
theorem hi_r_agrees : Cond.initialized y_r_agrees.cls ∈ q_tb := q_inT1 19 rfl rfl
theorem hn_r_agrees : Cond.instanceMethod y_r_agrees ∈ q_tb := q_inT7 114 rfl rfl
theorem hz_r_agrees : Cond.selects y_r_agrees.cls y_r_agrees y_r_agrees ∈ q_tb := q_inP8 7 rfl
theorem hy_r_agrees : y_r_agrees.cls ≠ "java/lang/invoke/MethodHandle" ∧ y_r_agrees.cls ≠ "java/lang/invoke/VarHandle" ∧ (parseMethodDescriptor y_r_agrees.desc).map (fun d => d.parameters.length) = some 2 := by decide +kernel
def y_r_agreesAll : MethodName := ⟨"WhichSwitchModel", "agreesAll", "(I)I"⟩
theorem hc_r_agreesAll : Cond.code y_r_agreesAll prog_13_method_80_code 5 (some .int) ∈ q_tb := q_inT7 123 rfl rfl
theorem hi_r_agreesAll : Cond.initialized y_r_agreesAll.cls ∈ q_tb := q_inT1 19 rfl rfl
theorem hn_r_agreesAll : Cond.instanceMethod y_r_agreesAll ∈ q_tb := q_inT7 122 rfl rfl
theorem hz_r_agreesAll : Cond.selects y_r_agreesAll.cls y_r_agreesAll y_r_agreesAll ∈ q_tb := q_inP8 8 rfl
theorem hy_r_agreesAll : y_r_agreesAll.cls ≠ "java/lang/invoke/MethodHandle" ∧ y_r_agreesAll.cls ≠ "java/lang/invoke/VarHandle" ∧ (parseMethodDescriptor y_r_agreesAll.desc).map (fun d => d.parameters.length) = some 1 := by decide +kernel
def y_r_size : MethodName := ⟨"WhichSwitchModel", "size", "(I)I"⟩
theorem hc_r_size : Cond.code y_r_size prog_13_method_84_code 1 (some .int) ∈ q_tb := q_inT7 135 rfl rfl
theorem hi_r_size : Cond.initialized y_r_size.cls ∈ q_tb := q_inT1 19 rfl rfl
theorem hs_r_size : Cond.static y_r_size ∈ q_tb := q_inT7 134 rfl rfl
theorem hy_r_size : y_r_size.cls ≠ "java/lang/invoke/MethodHandle" ∧ y_r_size.cls ≠ "java/lang/invoke/VarHandle" ∧ (parseMethodDescriptor y_r_size.desc).map (fun d => d.parameters.length) = some 1 := by decide +kernel
def y_r_toneAt : MethodName := ⟨"WhichSwitchModel", "toneAt", "(II)I"⟩
theorem hc_r_toneAt : Cond.code y_r_toneAt prog_13_method_83_code 3 (some .int) ∈ q_tb := q_inT7 139 rfl rfl
theorem hi_r_toneAt : Cond.initialized y_r_toneAt.cls ∈ q_tb := q_inT1 19 rfl rfl
theorem hn_r_toneAt : Cond.instanceMethod y_r_toneAt ∈ q_tb := q_inT7 138 rfl rfl
theorem hz_r_toneAt : Cond.selects y_r_toneAt.cls y_r_toneAt y_r_toneAt ∈ q_tb := q_inP8 9 rfl
theorem hy_r_toneAt : y_r_toneAt.cls ≠ "java/lang/invoke/MethodHandle" ∧ y_r_toneAt.cls ≠ "java/lang/invoke/VarHandle" ∧ (parseMethodDescriptor y_r_toneAt.desc).map (fun d => d.parameters.length) = some 2 := by decide +kernel
def y_r_loadOf : MethodName := ⟨"WhichSwitchModel", "loadOf", "(III)I"⟩
theorem hc_r_loadOf : Cond.code y_r_loadOf prog_13_method_87_code 6 (some .int) ∈ q_tb := q_inT7 151 rfl rfl
theorem hi_r_loadOf : Cond.initialized y_r_loadOf.cls ∈ q_tb := q_inT1 19 rfl rfl
theorem hn_r_loadOf : Cond.instanceMethod y_r_loadOf ∈ q_tb := q_inT7 150 rfl rfl
theorem hz_r_loadOf : Cond.selects y_r_loadOf.cls y_r_loadOf y_r_loadOf ∈ q_tb := q_inP8 10 rfl
theorem hy_r_loadOf : y_r_loadOf.cls ≠ "java/lang/invoke/MethodHandle" ∧ y_r_loadOf.cls ≠ "java/lang/invoke/VarHandle" ∧ (parseMethodDescriptor y_r_loadOf.desc).map (fun d => d.parameters.length) = some 3 := by decide +kernel
def y_r_meterOf : MethodName := ⟨"WhichSwitchModel", "meterOf", "(I)I"⟩
theorem hc_r_meterOf : Cond.code y_r_meterOf prog_13_method_91_code 4 (some .int) ∈ q_tb := q_inT7 167 rfl rfl
theorem hi_r_meterOf : Cond.initialized y_r_meterOf.cls ∈ q_tb := q_inT1 19 rfl rfl
theorem hn_r_meterOf : Cond.instanceMethod y_r_meterOf ∈ q_tb := q_inT7 166 rfl rfl
theorem hz_r_meterOf : Cond.selects y_r_meterOf.cls y_r_meterOf y_r_meterOf ∈ q_tb := q_inP8 11 rfl
theorem hy_r_meterOf : y_r_meterOf.cls ≠ "java/lang/invoke/MethodHandle" ∧ y_r_meterOf.cls ≠ "java/lang/invoke/VarHandle" ∧ (parseMethodDescriptor y_r_meterOf.desc).map (fun d => d.parameters.length) = some 1 := by decide +kernel
def y_r_lamp : MethodName := ⟨"WhichSwitchModel", "lamp", "(IIII)I"⟩
theorem hc_r_lamp : Cond.code y_r_lamp prog_13_method_13_code 6 (some .int) ∈ q_tb := q_inT6 77 rfl rfl
theorem hi_r_lamp : Cond.initialized y_r_lamp.cls ∈ q_tb := q_inT1 19 rfl rfl
theorem hn_r_lamp : Cond.instanceMethod y_r_lamp ∈ q_tb := q_inT6 75 rfl rfl
theorem hz_r_lamp : Cond.selects y_r_lamp.cls y_r_lamp y_r_lamp ∈ q_tb := q_inT6 76 rfl rfl
theorem hy_r_lamp : y_r_lamp.cls ≠ "java/lang/invoke/MethodHandle" ∧ y_r_lamp.cls ≠ "java/lang/invoke/VarHandle" ∧ (parseMethodDescriptor y_r_lamp.desc).map (fun d => d.parameters.length) = some 4 := by decide +kernel
def y_r_isUnder : MethodName := ⟨"WhichSwitchModel", "isUnder", "(II)Z"⟩
theorem hc_r_isUnder : Cond.code y_r_isUnder prog_13_method_102_code 2 (some .boolean) ∈ q_tb := q_inT7 216 rfl rfl
theorem hi_r_isUnder : Cond.initialized y_r_isUnder.cls ∈ q_tb := q_inT1 19 rfl rfl
theorem hs_r_isUnder : Cond.static y_r_isUnder ∈ q_tb := q_inT7 215 rfl rfl
theorem hy_r_isUnder : y_r_isUnder.cls ≠ "java/lang/invoke/MethodHandle" ∧ y_r_isUnder.cls ≠ "java/lang/invoke/VarHandle" ∧ (parseMethodDescriptor y_r_isUnder.desc).map (fun d => d.parameters.length) = some 2 := by decide +kernel
def y_w_init : MethodName := ⟨"WhichSwitch", "<init>", "()V"⟩
theorem hc_w_init : Cond.code y_w_init prog_1_method_1_code 2 none ∈ q_tb := q_inT1 26 rfl rfl
theorem hi_w_init : Cond.initialized y_w_init.cls ∈ q_tb := q_inT1 1 rfl rfl
theorem hn_w_init : Cond.instanceMethod y_w_init ∈ q_tb := q_inT1 25 rfl rfl
theorem hy_w_init : y_w_init.cls ≠ "java/lang/invoke/MethodHandle" ∧ y_w_init.cls ≠ "java/lang/invoke/VarHandle" ∧ (parseMethodDescriptor y_w_init.desc).map (fun d => d.parameters.length) = some 0 := by decide +kernel
def y_r_init : MethodName := ⟨"WhichSwitchModel", "<init>", "()V"⟩
theorem hc_r_init : Cond.code y_r_init prog_13_method_1_code 1 none ∈ q_tb := q_inT5 87 rfl rfl
theorem hi_r_init : Cond.initialized y_r_init.cls ∈ q_tb := q_inT1 19 rfl rfl
theorem hn_r_init : Cond.instanceMethod y_r_init ∈ q_tb := q_inT5 86 rfl rfl
theorem hy_r_init : y_r_init.cls ≠ "java/lang/invoke/MethodHandle" ∧ y_r_init.cls ≠ "java/lang/invoke/VarHandle" ∧ (parseMethodDescriptor y_r_init.desc).map (fun d => d.parameters.length) = some 0 := by decide +kernel
def y_w_fuse : MethodName := ⟨"WhichSwitch", "fuse", "(II)I"⟩
theorem hc_w_fuse : Cond.code y_w_fuse prog_1_method_2_code 3 (some .int) ∈ q_tb := q_inT3 46 rfl rfl
theorem hi_w_fuse : Cond.initialized y_w_fuse.cls ∈ q_tb := q_inT1 1 rfl rfl
theorem hn_w_fuse : Cond.instanceMethod y_w_fuse ∈ q_tb := q_inT3 44 rfl rfl
theorem hz_w_fuse : Cond.selects y_w_fuse.cls y_w_fuse y_w_fuse ∈ q_tb := q_inT3 45 rfl rfl
theorem hy_w_fuse : y_w_fuse.cls ≠ "java/lang/invoke/MethodHandle" ∧ y_w_fuse.cls ≠ "java/lang/invoke/VarHandle" ∧ (parseMethodDescriptor y_w_fuse.desc).map (fun d => d.parameters.length) = some 2 := by decide +kernel
def y_r_fuse : MethodName := ⟨"WhichSwitchModel", "fuse", "(II)I"⟩
theorem hc_r_fuse : Cond.code y_r_fuse prog_13_method_10_code 3 (some .int) ∈ q_tb := q_inT6 57 rfl rfl
theorem hi_r_fuse : Cond.initialized y_r_fuse.cls ∈ q_tb := q_inT1 19 rfl rfl
theorem hn_r_fuse : Cond.instanceMethod y_r_fuse ∈ q_tb := q_inT6 55 rfl rfl
theorem hz_r_fuse : Cond.selects y_r_fuse.cls y_r_fuse y_r_fuse ∈ q_tb := q_inT6 56 rfl rfl
theorem hy_r_fuse : y_r_fuse.cls ≠ "java/lang/invoke/MethodHandle" ∧ y_r_fuse.cls ≠ "java/lang/invoke/VarHandle" ∧ (parseMethodDescriptor y_r_fuse.desc).map (fun d => d.parameters.length) = some 2 := by decide +kernel
def y_w_set : MethodName := ⟨"WhichSwitch", "set", "(II)I"⟩
theorem hc_w_set : Cond.code y_w_set prog_1_method_3_code 4 (some .int) ∈ q_tb := q_inT3 51 rfl rfl
theorem hi_w_set : Cond.initialized y_w_set.cls ∈ q_tb := q_inT1 1 rfl rfl
theorem hn_w_set : Cond.instanceMethod y_w_set ∈ q_tb := q_inT3 49 rfl rfl
theorem hz_w_set : Cond.selects y_w_set.cls y_w_set y_w_set ∈ q_tb := q_inT3 50 rfl rfl
theorem hy_w_set : y_w_set.cls ≠ "java/lang/invoke/MethodHandle" ∧ y_w_set.cls ≠ "java/lang/invoke/VarHandle" ∧ (parseMethodDescriptor y_w_set.desc).map (fun d => d.parameters.length) = some 2 := by decide +kernel
def y_r_set : MethodName := ⟨"WhichSwitchModel", "set", "(II)I"⟩
theorem hc_r_set : Cond.code y_r_set prog_13_method_11_code 5 (some .int) ∈ q_tb := q_inT6 64 rfl rfl
theorem hi_r_set : Cond.initialized y_r_set.cls ∈ q_tb := q_inT1 19 rfl rfl
theorem hn_r_set : Cond.instanceMethod y_r_set ∈ q_tb := q_inT6 62 rfl rfl
theorem hz_r_set : Cond.selects y_r_set.cls y_r_set y_r_set ∈ q_tb := q_inT6 63 rfl rfl
theorem hy_r_set : y_r_set.cls ≠ "java/lang/invoke/MethodHandle" ∧ y_r_set.cls ≠ "java/lang/invoke/VarHandle" ∧ (parseMethodDescriptor y_r_set.desc).map (fun d => d.parameters.length) = some 2 := by decide +kernel
def y_w_count : MethodName := ⟨"WhichSwitch", "count", "(I)I"⟩
theorem hc_w_count : Cond.code y_w_count prog_1_method_5_code 2 (some .int) ∈ q_tb := q_inT3 62 rfl rfl
theorem hi_w_count : Cond.initialized y_w_count.cls ∈ q_tb := q_inT1 1 rfl rfl
theorem hn_w_count : Cond.instanceMethod y_w_count ∈ q_tb := q_inT3 60 rfl rfl
theorem hz_w_count : Cond.selects y_w_count.cls y_w_count y_w_count ∈ q_tb := q_inT3 61 rfl rfl
theorem hy_w_count : y_w_count.cls ≠ "java/lang/invoke/MethodHandle" ∧ y_w_count.cls ≠ "java/lang/invoke/VarHandle" ∧ (parseMethodDescriptor y_w_count.desc).map (fun d => d.parameters.length) = some 1 := by decide +kernel
def y_w_lampTold : MethodName := ⟨"WhichSwitch", "lampTold", "(II)I"⟩
theorem hc_w_lampTold : Cond.code y_w_lampTold prog_1_method_8_code 4 (some .int) ∈ q_tb := q_inT3 77 rfl rfl
theorem hi_w_lampTold : Cond.initialized y_w_lampTold.cls ∈ q_tb := q_inT1 1 rfl rfl
theorem hn_w_lampTold : Cond.instanceMethod y_w_lampTold ∈ q_tb := q_inT3 75 rfl rfl
theorem hz_w_lampTold : Cond.selects y_w_lampTold.cls y_w_lampTold y_w_lampTold ∈ q_tb := q_inT3 76 rfl rfl
theorem hy_w_lampTold : y_w_lampTold.cls ≠ "java/lang/invoke/MethodHandle" ∧ y_w_lampTold.cls ≠ "java/lang/invoke/VarHandle" ∧ (parseMethodDescriptor y_w_lampTold.desc).map (fun d => d.parameters.length) = some 2 := by decide +kernel
def y_r_lampTold : MethodName := ⟨"WhichSwitchModel", "lampTold", "(II)I"⟩
theorem hc_r_lampTold : Cond.code y_r_lampTold prog_13_method_14_code 3 (some .int) ∈ q_tb := q_inT6 81 rfl rfl
theorem hi_r_lampTold : Cond.initialized y_r_lampTold.cls ∈ q_tb := q_inT1 19 rfl rfl
theorem hn_r_lampTold : Cond.instanceMethod y_r_lampTold ∈ q_tb := q_inT6 79 rfl rfl
theorem hz_r_lampTold : Cond.selects y_r_lampTold.cls y_r_lampTold y_r_lampTold ∈ q_tb := q_inT6 80 rfl rfl
theorem hy_r_lampTold : y_r_lampTold.cls ≠ "java/lang/invoke/MethodHandle" ∧ y_r_lampTold.cls ≠ "java/lang/invoke/VarHandle" ∧ (parseMethodDescriptor y_r_lampTold.desc).map (fun d => d.parameters.length) = some 2 := by decide +kernel
def y_w_feed : MethodName := ⟨"WhichSwitch", "feed", "(JI)I"⟩
theorem hc_w_feed : Cond.code y_w_feed prog_1_method_9_code 5 (some .int) ∈ q_tb := q_inT3 85 rfl rfl
theorem hi_w_feed : Cond.initialized y_w_feed.cls ∈ q_tb := q_inT1 1 rfl rfl
theorem hn_w_feed : Cond.instanceMethod y_w_feed ∈ q_tb := q_inT3 83 rfl rfl
theorem hz_w_feed : Cond.selects y_w_feed.cls y_w_feed y_w_feed ∈ q_tb := q_inT3 84 rfl rfl
theorem hy_w_feed : y_w_feed.cls ≠ "java/lang/invoke/MethodHandle" ∧ y_w_feed.cls ≠ "java/lang/invoke/VarHandle" ∧ (parseMethodDescriptor y_w_feed.desc).map (fun d => d.parameters.length) = some 2 := by decide +kernel
def y_r_feed : MethodName := ⟨"WhichSwitchModel", "feed", "(JI)I"⟩
theorem hc_r_feed : Cond.code y_r_feed prog_13_method_15_code 5 (some .int) ∈ q_tb := q_inT6 89 rfl rfl
theorem hi_r_feed : Cond.initialized y_r_feed.cls ∈ q_tb := q_inT1 19 rfl rfl
theorem hn_r_feed : Cond.instanceMethod y_r_feed ∈ q_tb := q_inT6 87 rfl rfl
theorem hz_r_feed : Cond.selects y_r_feed.cls y_r_feed y_r_feed ∈ q_tb := q_inT6 88 rfl rfl
theorem hy_r_feed : y_r_feed.cls ≠ "java/lang/invoke/MethodHandle" ∧ y_r_feed.cls ≠ "java/lang/invoke/VarHandle" ∧ (parseMethodDescriptor y_r_feed.desc).map (fun d => d.parameters.length) = some 2 := by decide +kernel
def y_w_text : MethodName := ⟨"WhichSwitch", "text", "()I"⟩
theorem hc_w_text : Cond.code y_w_text prog_1_method_10_code 2 (some .int) ∈ q_tb := q_inT3 90 rfl rfl
theorem hi_w_text : Cond.initialized y_w_text.cls ∈ q_tb := q_inT1 1 rfl rfl
theorem hn_w_text : Cond.instanceMethod y_w_text ∈ q_tb := q_inT3 88 rfl rfl
theorem hz_w_text : Cond.selects y_w_text.cls y_w_text y_w_text ∈ q_tb := q_inT3 89 rfl rfl
theorem hy_w_text : y_w_text.cls ≠ "java/lang/invoke/MethodHandle" ∧ y_w_text.cls ≠ "java/lang/invoke/VarHandle" ∧ (parseMethodDescriptor y_w_text.desc).map (fun d => d.parameters.length) = some 0 := by decide +kernel
def y_r_text : MethodName := ⟨"WhichSwitchModel", "text", "()I"⟩
theorem hc_r_text : Cond.code y_r_text prog_13_method_26_code 3 (some .int) ∈ q_tb := q_inT6 94 rfl rfl
theorem hi_r_text : Cond.initialized y_r_text.cls ∈ q_tb := q_inT1 19 rfl rfl
theorem hn_r_text : Cond.instanceMethod y_r_text ∈ q_tb := q_inT6 92 rfl rfl
theorem hz_r_text : Cond.selects y_r_text.cls y_r_text y_r_text ∈ q_tb := q_inT6 93 rfl rfl
theorem hy_r_text : y_r_text.cls ≠ "java/lang/invoke/MethodHandle" ∧ y_r_text.cls ≠ "java/lang/invoke/VarHandle" ∧ (parseMethodDescriptor y_r_text.desc).map (fun d => d.parameters.length) = some 0 := by decide +kernel
def y_w_force : MethodName := ⟨"WhichSwitch", "force", "(I)I"⟩
theorem hc_w_force : Cond.code y_w_force prog_1_method_11_code 3 (some .int) ∈ q_tb := q_inT3 94 rfl rfl
theorem hi_w_force : Cond.initialized y_w_force.cls ∈ q_tb := q_inT1 1 rfl rfl
theorem hn_w_force : Cond.instanceMethod y_w_force ∈ q_tb := q_inT3 92 rfl rfl
theorem hz_w_force : Cond.selects y_w_force.cls y_w_force y_w_force ∈ q_tb := q_inT3 93 rfl rfl
theorem hy_w_force : y_w_force.cls ≠ "java/lang/invoke/MethodHandle" ∧ y_w_force.cls ≠ "java/lang/invoke/VarHandle" ∧ (parseMethodDescriptor y_w_force.desc).map (fun d => d.parameters.length) = some 1 := by decide +kernel
def y_r_force : MethodName := ⟨"WhichSwitchModel", "force", "(I)I"⟩
theorem hc_r_force : Cond.code y_r_force prog_13_method_29_code 3 (some .int) ∈ q_tb := q_inT6 138 rfl rfl
theorem hi_r_force : Cond.initialized y_r_force.cls ∈ q_tb := q_inT1 19 rfl rfl
theorem hn_r_force : Cond.instanceMethod y_r_force ∈ q_tb := q_inT6 136 rfl rfl
theorem hz_r_force : Cond.selects y_r_force.cls y_r_force y_r_force ∈ q_tb := q_inT6 137 rfl rfl
theorem hy_r_force : y_r_force.cls ≠ "java/lang/invoke/MethodHandle" ∧ y_r_force.cls ≠ "java/lang/invoke/VarHandle" ∧ (parseMethodDescriptor y_r_force.desc).map (fun d => d.parameters.length) = some 1 := by decide +kernel
def y_w_house : MethodName := ⟨"WhichSwitch", "house", "(I)I"⟩
theorem hc_w_house : Cond.code y_w_house prog_1_method_14_code 3 (some .int) ∈ q_tb := q_inT3 98 rfl rfl
theorem hi_w_house : Cond.initialized y_w_house.cls ∈ q_tb := q_inT1 1 rfl rfl
theorem hn_w_house : Cond.instanceMethod y_w_house ∈ q_tb := q_inT3 96 rfl rfl
theorem hz_w_house : Cond.selects y_w_house.cls y_w_house y_w_house ∈ q_tb := q_inT3 97 rfl rfl
theorem hy_w_house : y_w_house.cls ≠ "java/lang/invoke/MethodHandle" ∧ y_w_house.cls ≠ "java/lang/invoke/VarHandle" ∧ (parseMethodDescriptor y_w_house.desc).map (fun d => d.parameters.length) = some 1 := by decide +kernel
def y_r_house : MethodName := ⟨"WhichSwitchModel", "house", "(I)I"⟩
theorem hc_r_house : Cond.code y_r_house prog_13_method_32_code 4 (some .int) ∈ q_tb := q_inT6 142 rfl rfl
theorem hi_r_house : Cond.initialized y_r_house.cls ∈ q_tb := q_inT1 19 rfl rfl
theorem hn_r_house : Cond.instanceMethod y_r_house ∈ q_tb := q_inT6 140 rfl rfl
theorem hz_r_house : Cond.selects y_r_house.cls y_r_house y_r_house ∈ q_tb := q_inT6 141 rfl rfl
theorem hy_r_house : y_r_house.cls ≠ "java/lang/invoke/MethodHandle" ∧ y_r_house.cls ≠ "java/lang/invoke/VarHandle" ∧ (parseMethodDescriptor y_r_house.desc).map (fun d => d.parameters.length) = some 1 := by decide +kernel
def y_w_fedBy : MethodName := ⟨"WhichSwitch", "fedBy", "(II)I"⟩
theorem hc_w_fedBy : Cond.code y_w_fedBy prog_1_method_16_code 3 (some .int) ∈ q_tb := q_inT3 123 rfl rfl
theorem hi_w_fedBy : Cond.initialized y_w_fedBy.cls ∈ q_tb := q_inT1 1 rfl rfl
theorem hn_w_fedBy : Cond.instanceMethod y_w_fedBy ∈ q_tb := q_inT3 121 rfl rfl
theorem hz_w_fedBy : Cond.selects y_w_fedBy.cls y_w_fedBy y_w_fedBy ∈ q_tb := q_inT3 122 rfl rfl
theorem hy_w_fedBy : y_w_fedBy.cls ≠ "java/lang/invoke/MethodHandle" ∧ y_w_fedBy.cls ≠ "java/lang/invoke/VarHandle" ∧ (parseMethodDescriptor y_w_fedBy.desc).map (fun d => d.parameters.length) = some 2 := by decide +kernel
def y_r_fedBy : MethodName := ⟨"WhichSwitchModel", "fedBy", "(II)I"⟩
theorem hc_r_fedBy : Cond.code y_r_fedBy prog_13_method_33_code 3 (some .int) ∈ q_tb := q_inT6 150 rfl rfl
theorem hi_r_fedBy : Cond.initialized y_r_fedBy.cls ∈ q_tb := q_inT1 19 rfl rfl
theorem hn_r_fedBy : Cond.instanceMethod y_r_fedBy ∈ q_tb := q_inT6 148 rfl rfl
theorem hz_r_fedBy : Cond.selects y_r_fedBy.cls y_r_fedBy y_r_fedBy ∈ q_tb := q_inT6 149 rfl rfl
theorem hy_r_fedBy : y_r_fedBy.cls ≠ "java/lang/invoke/MethodHandle" ∧ y_r_fedBy.cls ≠ "java/lang/invoke/VarHandle" ∧ (parseMethodDescriptor y_r_fedBy.desc).map (fun d => d.parameters.length) = some 2 := by decide +kernel
def y_w_show : MethodName := ⟨"WhichSwitch", "show", "(I)I"⟩
theorem hc_w_show : Cond.code y_w_show prog_1_method_17_code 2 (some .int) ∈ q_tb := q_inT3 131 rfl rfl
theorem hi_w_show : Cond.initialized y_w_show.cls ∈ q_tb := q_inT1 1 rfl rfl
theorem hn_w_show : Cond.instanceMethod y_w_show ∈ q_tb := q_inT3 129 rfl rfl
theorem hz_w_show : Cond.selects y_w_show.cls y_w_show y_w_show ∈ q_tb := q_inT3 130 rfl rfl
theorem hy_w_show : y_w_show.cls ≠ "java/lang/invoke/MethodHandle" ∧ y_w_show.cls ≠ "java/lang/invoke/VarHandle" ∧ (parseMethodDescriptor y_w_show.desc).map (fun d => d.parameters.length) = some 1 := by decide +kernel
def y_r_show : MethodName := ⟨"WhichSwitchModel", "show", "(I)I"⟩
theorem hc_r_show : Cond.code y_r_show prog_13_method_38_code 2 (some .int) ∈ q_tb := q_inT6 158 rfl rfl
theorem hi_r_show : Cond.initialized y_r_show.cls ∈ q_tb := q_inT1 19 rfl rfl
theorem hn_r_show : Cond.instanceMethod y_r_show ∈ q_tb := q_inT6 156 rfl rfl
theorem hz_r_show : Cond.selects y_r_show.cls y_r_show y_r_show ∈ q_tb := q_inT6 157 rfl rfl
theorem hy_r_show : y_r_show.cls ≠ "java/lang/invoke/MethodHandle" ∧ y_r_show.cls ≠ "java/lang/invoke/VarHandle" ∧ (parseMethodDescriptor y_r_show.desc).map (fun d => d.parameters.length) = some 1 := by decide +kernel
def y_w_bright : MethodName := ⟨"WhichSwitch", "bright", "(II)I"⟩
theorem hc_w_bright : Cond.code y_w_bright prog_1_method_18_code 3 (some .int) ∈ q_tb := q_inT3 156 rfl rfl
theorem hi_w_bright : Cond.initialized y_w_bright.cls ∈ q_tb := q_inT1 1 rfl rfl
theorem hn_w_bright : Cond.instanceMethod y_w_bright ∈ q_tb := q_inT3 154 rfl rfl
theorem hz_w_bright : Cond.selects y_w_bright.cls y_w_bright y_w_bright ∈ q_tb := q_inT3 155 rfl rfl
theorem hy_w_bright : y_w_bright.cls ≠ "java/lang/invoke/MethodHandle" ∧ y_w_bright.cls ≠ "java/lang/invoke/VarHandle" ∧ (parseMethodDescriptor y_w_bright.desc).map (fun d => d.parameters.length) = some 2 := by decide +kernel
def y_r_bright : MethodName := ⟨"WhichSwitchModel", "bright", "(II)I"⟩
theorem hc_r_bright : Cond.code y_r_bright prog_13_method_41_code 3 (some .int) ∈ q_tb := q_inT6 178 rfl rfl
theorem hi_r_bright : Cond.initialized y_r_bright.cls ∈ q_tb := q_inT1 19 rfl rfl
theorem hn_r_bright : Cond.instanceMethod y_r_bright ∈ q_tb := q_inT6 176 rfl rfl
theorem hz_r_bright : Cond.selects y_r_bright.cls y_r_bright y_r_bright ∈ q_tb := q_inT6 177 rfl rfl
theorem hy_r_bright : y_r_bright.cls ≠ "java/lang/invoke/MethodHandle" ∧ y_r_bright.cls ≠ "java/lang/invoke/VarHandle" ∧ (parseMethodDescriptor y_r_bright.desc).map (fun d => d.parameters.length) = some 2 := by decide +kernel
def y_w_room : MethodName := ⟨"WhichSwitch", "room", "(II)I"⟩
theorem hc_w_room : Cond.code y_w_room prog_1_method_19_code 6 (some .int) ∈ q_tb := q_inT3 203 rfl rfl
theorem hi_w_room : Cond.initialized y_w_room.cls ∈ q_tb := q_inT1 1 rfl rfl
theorem hn_w_room : Cond.instanceMethod y_w_room ∈ q_tb := q_inT3 201 rfl rfl
theorem hz_w_room : Cond.selects y_w_room.cls y_w_room y_w_room ∈ q_tb := q_inT3 202 rfl rfl
theorem hy_w_room : y_w_room.cls ≠ "java/lang/invoke/MethodHandle" ∧ y_w_room.cls ≠ "java/lang/invoke/VarHandle" ∧ (parseMethodDescriptor y_w_room.desc).map (fun d => d.parameters.length) = some 2 := by decide +kernel
def y_r_room : MethodName := ⟨"WhichSwitchModel", "room", "(II)I"⟩
theorem hc_r_room : Cond.code y_r_room prog_13_method_42_code 5 (some .int) ∈ q_tb := q_inT6 201 rfl rfl
theorem hi_r_room : Cond.initialized y_r_room.cls ∈ q_tb := q_inT1 19 rfl rfl
theorem hn_r_room : Cond.instanceMethod y_r_room ∈ q_tb := q_inT6 199 rfl rfl
theorem hz_r_room : Cond.selects y_r_room.cls y_r_room y_r_room ∈ q_tb := q_inT6 200 rfl rfl
theorem hy_r_room : y_r_room.cls ≠ "java/lang/invoke/MethodHandle" ∧ y_r_room.cls ≠ "java/lang/invoke/VarHandle" ∧ (parseMethodDescriptor y_r_room.desc).map (fun d => d.parameters.length) = some 2 := by decide +kernel
def y_w_nothing : MethodName := ⟨"WhichSwitch", "nothing", "(I)I"⟩
theorem hc_w_nothing : Cond.code y_w_nothing prog_1_method_20_code 7 (some .int) ∈ q_tb := q_inT3 210 rfl rfl
theorem hi_w_nothing : Cond.initialized y_w_nothing.cls ∈ q_tb := q_inT1 1 rfl rfl
theorem hn_w_nothing : Cond.instanceMethod y_w_nothing ∈ q_tb := q_inT3 208 rfl rfl
theorem hz_w_nothing : Cond.selects y_w_nothing.cls y_w_nothing y_w_nothing ∈ q_tb := q_inT3 209 rfl rfl
theorem hy_w_nothing : y_w_nothing.cls ≠ "java/lang/invoke/MethodHandle" ∧ y_w_nothing.cls ≠ "java/lang/invoke/VarHandle" ∧ (parseMethodDescriptor y_w_nothing.desc).map (fun d => d.parameters.length) = some 1 := by decide +kernel
def y_r_nothing : MethodName := ⟨"WhichSwitchModel", "nothing", "(I)I"⟩
theorem hc_r_nothing : Cond.code y_r_nothing prog_13_method_43_code 4 (some .int) ∈ q_tb := q_inT6 205 rfl rfl
theorem hi_r_nothing : Cond.initialized y_r_nothing.cls ∈ q_tb := q_inT1 19 rfl rfl
theorem hn_r_nothing : Cond.instanceMethod y_r_nothing ∈ q_tb := q_inT6 203 rfl rfl
theorem hz_r_nothing : Cond.selects y_r_nothing.cls y_r_nothing y_r_nothing ∈ q_tb := q_inT6 204 rfl rfl
theorem hy_r_nothing : y_r_nothing.cls ≠ "java/lang/invoke/MethodHandle" ∧ y_r_nothing.cls ≠ "java/lang/invoke/VarHandle" ∧ (parseMethodDescriptor y_r_nothing.desc).map (fun d => d.parameters.length) = some 1 := by decide +kernel
def y_w_ask : MethodName := ⟨"WhichSwitch", "ask", "(II)I"⟩
theorem hc_w_ask : Cond.code y_w_ask prog_1_method_27_code 4 (some .int) ∈ q_tb := q_inT3 214 rfl rfl
theorem hi_w_ask : Cond.initialized y_w_ask.cls ∈ q_tb := q_inT1 1 rfl rfl
theorem hn_w_ask : Cond.instanceMethod y_w_ask ∈ q_tb := q_inT3 212 rfl rfl
theorem hz_w_ask : Cond.selects y_w_ask.cls y_w_ask y_w_ask ∈ q_tb := q_inT3 213 rfl rfl
theorem hy_w_ask : y_w_ask.cls ≠ "java/lang/invoke/MethodHandle" ∧ y_w_ask.cls ≠ "java/lang/invoke/VarHandle" ∧ (parseMethodDescriptor y_w_ask.desc).map (fun d => d.parameters.length) = some 2 := by decide +kernel
def y_r_ask : MethodName := ⟨"WhichSwitchModel", "ask", "(II)I"⟩
theorem hc_r_ask : Cond.code y_r_ask prog_13_method_46_code 3 (some .int) ∈ q_tb := q_inT6 209 rfl rfl
theorem hi_r_ask : Cond.initialized y_r_ask.cls ∈ q_tb := q_inT1 19 rfl rfl
theorem hn_r_ask : Cond.instanceMethod y_r_ask ∈ q_tb := q_inT6 207 rfl rfl
theorem hz_r_ask : Cond.selects y_r_ask.cls y_r_ask y_r_ask ∈ q_tb := q_inT6 208 rfl rfl
theorem hy_r_ask : y_r_ask.cls ≠ "java/lang/invoke/MethodHandle" ∧ y_r_ask.cls ≠ "java/lang/invoke/VarHandle" ∧ (parseMethodDescriptor y_r_ask.desc).map (fun d => d.parameters.length) = some 2 := by decide +kernel
def y_w_forget : MethodName := ⟨"WhichSwitch", "forget", "()I"⟩
theorem hc_w_forget : Cond.code y_w_forget prog_1_method_28_code 1 (some .int) ∈ q_tb := q_inT3 228 rfl rfl
theorem hi_w_forget : Cond.initialized y_w_forget.cls ∈ q_tb := q_inT1 1 rfl rfl
theorem hn_w_forget : Cond.instanceMethod y_w_forget ∈ q_tb := q_inT3 226 rfl rfl
theorem hz_w_forget : Cond.selects y_w_forget.cls y_w_forget y_w_forget ∈ q_tb := q_inT3 227 rfl rfl
theorem hy_w_forget : y_w_forget.cls ≠ "java/lang/invoke/MethodHandle" ∧ y_w_forget.cls ≠ "java/lang/invoke/VarHandle" ∧ (parseMethodDescriptor y_w_forget.desc).map (fun d => d.parameters.length) = some 0 := by decide +kernel
def y_r_forget : MethodName := ⟨"WhichSwitchModel", "forget", "()I"⟩
theorem hc_r_forget : Cond.code y_r_forget prog_13_method_47_code 1 (some .int) ∈ q_tb := q_inT6 224 rfl rfl
theorem hi_r_forget : Cond.initialized y_r_forget.cls ∈ q_tb := q_inT1 19 rfl rfl
theorem hn_r_forget : Cond.instanceMethod y_r_forget ∈ q_tb := q_inT6 222 rfl rfl
theorem hz_r_forget : Cond.selects y_r_forget.cls y_r_forget y_r_forget ∈ q_tb := q_inT6 223 rfl rfl
theorem hy_r_forget : y_r_forget.cls ≠ "java/lang/invoke/MethodHandle" ∧ y_r_forget.cls ≠ "java/lang/invoke/VarHandle" ∧ (parseMethodDescriptor y_r_forget.desc).map (fun d => d.parameters.length) = some 0 := by decide +kernel
def y_w_amiss : MethodName := ⟨"WhichSwitch", "amiss", "(II)I"⟩
theorem hc_w_amiss : Cond.code y_w_amiss prog_1_method_29_code 3 (some .int) ∈ q_tb := q_inT3 232 rfl rfl
theorem hi_w_amiss : Cond.initialized y_w_amiss.cls ∈ q_tb := q_inT1 1 rfl rfl
theorem hn_w_amiss : Cond.instanceMethod y_w_amiss ∈ q_tb := q_inT3 230 rfl rfl
theorem hz_w_amiss : Cond.selects y_w_amiss.cls y_w_amiss y_w_amiss ∈ q_tb := q_inT3 231 rfl rfl
theorem hy_w_amiss : y_w_amiss.cls ≠ "java/lang/invoke/MethodHandle" ∧ y_w_amiss.cls ≠ "java/lang/invoke/VarHandle" ∧ (parseMethodDescriptor y_w_amiss.desc).map (fun d => d.parameters.length) = some 2 := by decide +kernel
def y_r_amiss : MethodName := ⟨"WhichSwitchModel", "amiss", "(II)I"⟩
theorem hc_r_amiss : Cond.code y_r_amiss prog_13_method_49_code 3 (some .int) ∈ q_tb := q_inT6 228 rfl rfl
theorem hi_r_amiss : Cond.initialized y_r_amiss.cls ∈ q_tb := q_inT1 19 rfl rfl
theorem hn_r_amiss : Cond.instanceMethod y_r_amiss ∈ q_tb := q_inT6 226 rfl rfl
theorem hz_r_amiss : Cond.selects y_r_amiss.cls y_r_amiss y_r_amiss ∈ q_tb := q_inT6 227 rfl rfl
theorem hy_r_amiss : y_r_amiss.cls ≠ "java/lang/invoke/MethodHandle" ∧ y_r_amiss.cls ≠ "java/lang/invoke/VarHandle" ∧ (parseMethodDescriptor y_r_amiss.desc).map (fun d => d.parameters.length) = some 2 := by decide +kernel
def y_w_miss : MethodName := ⟨"WhichSwitch", "miss", "(I)I"⟩
theorem hc_w_miss : Cond.code y_w_miss prog_1_method_30_code 2 (some .int) ∈ q_tb := q_inT4 0 rfl rfl
theorem hi_w_miss : Cond.initialized y_w_miss.cls ∈ q_tb := q_inT1 1 rfl rfl
theorem hn_w_miss : Cond.instanceMethod y_w_miss ∈ q_tb := q_inT3 238 rfl rfl
theorem hz_w_miss : Cond.selects y_w_miss.cls y_w_miss y_w_miss ∈ q_tb := q_inT3 239 rfl rfl
theorem hy_w_miss : y_w_miss.cls ≠ "java/lang/invoke/MethodHandle" ∧ y_w_miss.cls ≠ "java/lang/invoke/VarHandle" ∧ (parseMethodDescriptor y_w_miss.desc).map (fun d => d.parameters.length) = some 1 := by decide +kernel
def y_r_miss : MethodName := ⟨"WhichSwitchModel", "miss", "(I)I"⟩
theorem hc_r_miss : Cond.code y_r_miss prog_13_method_51_code 2 (some .int) ∈ q_tb := q_inT6 236 rfl rfl
theorem hi_r_miss : Cond.initialized y_r_miss.cls ∈ q_tb := q_inT1 19 rfl rfl
theorem hn_r_miss : Cond.instanceMethod y_r_miss ∈ q_tb := q_inT6 234 rfl rfl
theorem hz_r_miss : Cond.selects y_r_miss.cls y_r_miss y_r_miss ∈ q_tb := q_inT6 235 rfl rfl
theorem hy_r_miss : y_r_miss.cls ≠ "java/lang/invoke/MethodHandle" ∧ y_r_miss.cls ≠ "java/lang/invoke/VarHandle" ∧ (parseMethodDescriptor y_r_miss.desc).map (fun d => d.parameters.length) = some 1 := by decide +kernel
def y_w_lets : MethodName := ⟨"WhichSwitch", "lets", "()I"⟩
theorem hc_w_lets : Cond.code y_w_lets prog_1_method_31_code 1 (some .int) ∈ q_tb := q_inT4 14 rfl rfl
theorem hi_w_lets : Cond.initialized y_w_lets.cls ∈ q_tb := q_inT1 1 rfl rfl
theorem hn_w_lets : Cond.instanceMethod y_w_lets ∈ q_tb := q_inT4 12 rfl rfl
theorem hz_w_lets : Cond.selects y_w_lets.cls y_w_lets y_w_lets ∈ q_tb := q_inT4 13 rfl rfl
theorem hy_w_lets : y_w_lets.cls ≠ "java/lang/invoke/MethodHandle" ∧ y_w_lets.cls ≠ "java/lang/invoke/VarHandle" ∧ (parseMethodDescriptor y_w_lets.desc).map (fun d => d.parameters.length) = some 0 := by decide +kernel
def y_r_lets : MethodName := ⟨"WhichSwitchModel", "lets", "()I"⟩
theorem hc_r_lets : Cond.code y_r_lets prog_13_method_53_code 1 (some .int) ∈ q_tb := q_inT7 7 rfl rfl
theorem hi_r_lets : Cond.initialized y_r_lets.cls ∈ q_tb := q_inT1 19 rfl rfl
theorem hn_r_lets : Cond.instanceMethod y_r_lets ∈ q_tb := q_inT7 5 rfl rfl
theorem hz_r_lets : Cond.selects y_r_lets.cls y_r_lets y_r_lets ∈ q_tb := q_inT7 6 rfl rfl
theorem hy_r_lets : y_r_lets.cls ≠ "java/lang/invoke/MethodHandle" ∧ y_r_lets.cls ≠ "java/lang/invoke/VarHandle" ∧ (parseMethodDescriptor y_r_lets.desc).map (fun d => d.parameters.length) = some 0 := by decide +kernel
def y_w_likeliest : MethodName := ⟨"WhichSwitch", "likeliest", "()I"⟩
theorem hc_w_likeliest : Cond.code y_w_likeliest prog_1_method_32_code 5 (some .int) ∈ q_tb := q_inT4 26 rfl rfl
theorem hi_w_likeliest : Cond.initialized y_w_likeliest.cls ∈ q_tb := q_inT1 1 rfl rfl
theorem hn_w_likeliest : Cond.instanceMethod y_w_likeliest ∈ q_tb := q_inT4 24 rfl rfl
theorem hz_w_likeliest : Cond.selects y_w_likeliest.cls y_w_likeliest y_w_likeliest ∈ q_tb := q_inT4 25 rfl rfl
theorem hy_w_likeliest : y_w_likeliest.cls ≠ "java/lang/invoke/MethodHandle" ∧ y_w_likeliest.cls ≠ "java/lang/invoke/VarHandle" ∧ (parseMethodDescriptor y_w_likeliest.desc).map (fun d => d.parameters.length) = some 0 := by decide +kernel
def y_r_likeliest : MethodName := ⟨"WhichSwitchModel", "likeliest", "()I"⟩
theorem hc_r_likeliest : Cond.code y_r_likeliest prog_13_method_54_code 3 (some .int) ∈ q_tb := q_inT7 15 rfl rfl
theorem hi_r_likeliest : Cond.initialized y_r_likeliest.cls ∈ q_tb := q_inT1 19 rfl rfl
theorem hn_r_likeliest : Cond.instanceMethod y_r_likeliest ∈ q_tb := q_inT7 13 rfl rfl
theorem hz_r_likeliest : Cond.selects y_r_likeliest.cls y_r_likeliest y_r_likeliest ∈ q_tb := q_inT7 14 rfl rfl
theorem hy_r_likeliest : y_r_likeliest.cls ≠ "java/lang/invoke/MethodHandle" ∧ y_r_likeliest.cls ≠ "java/lang/invoke/VarHandle" ∧ (parseMethodDescriptor y_r_likeliest.desc).map (fun d => d.parameters.length) = some 0 := by decide +kernel
def y_w_near : MethodName := ⟨"WhichSwitch", "near", "(I)I"⟩
theorem hc_w_near : Cond.code y_w_near prog_1_method_33_code 4 (some .int) ∈ q_tb := q_inT4 30 rfl rfl
theorem hi_w_near : Cond.initialized y_w_near.cls ∈ q_tb := q_inT1 1 rfl rfl
theorem hn_w_near : Cond.instanceMethod y_w_near ∈ q_tb := q_inT4 28 rfl rfl
theorem hz_w_near : Cond.selects y_w_near.cls y_w_near y_w_near ∈ q_tb := q_inT4 29 rfl rfl
theorem hy_w_near : y_w_near.cls ≠ "java/lang/invoke/MethodHandle" ∧ y_w_near.cls ≠ "java/lang/invoke/VarHandle" ∧ (parseMethodDescriptor y_w_near.desc).map (fun d => d.parameters.length) = some 1 := by decide +kernel
def y_r_near : MethodName := ⟨"WhichSwitchModel", "near", "(I)I"⟩
theorem hc_r_near : Cond.code y_r_near prog_13_method_55_code 2 (some .int) ∈ q_tb := q_inT7 19 rfl rfl
theorem hi_r_near : Cond.initialized y_r_near.cls ∈ q_tb := q_inT1 19 rfl rfl
theorem hn_r_near : Cond.instanceMethod y_r_near ∈ q_tb := q_inT7 17 rfl rfl
theorem hz_r_near : Cond.selects y_r_near.cls y_r_near y_r_near ∈ q_tb := q_inT7 18 rfl rfl
theorem hy_r_near : y_r_near.cls ≠ "java/lang/invoke/MethodHandle" ∧ y_r_near.cls ≠ "java/lang/invoke/VarHandle" ∧ (parseMethodDescriptor y_r_near.desc).map (fun d => d.parameters.length) = some 1 := by decide +kernel
def y_w_parts : MethodName := ⟨"WhichSwitch", "parts", "(III)I"⟩
theorem hc_w_parts : Cond.code y_w_parts prog_1_method_34_code 5 (some .int) ∈ q_tb := q_inT4 34 rfl rfl
theorem hi_w_parts : Cond.initialized y_w_parts.cls ∈ q_tb := q_inT1 1 rfl rfl
theorem hn_w_parts : Cond.instanceMethod y_w_parts ∈ q_tb := q_inT4 32 rfl rfl
theorem hz_w_parts : Cond.selects y_w_parts.cls y_w_parts y_w_parts ∈ q_tb := q_inT4 33 rfl rfl
theorem hy_w_parts : y_w_parts.cls ≠ "java/lang/invoke/MethodHandle" ∧ y_w_parts.cls ≠ "java/lang/invoke/VarHandle" ∧ (parseMethodDescriptor y_w_parts.desc).map (fun d => d.parameters.length) = some 3 := by decide +kernel
def y_r_parts : MethodName := ⟨"WhichSwitchModel", "parts", "(III)I"⟩
theorem hc_r_parts : Cond.code y_r_parts prog_13_method_59_code 5 (some .int) ∈ q_tb := q_inT7 23 rfl rfl
theorem hi_r_parts : Cond.initialized y_r_parts.cls ∈ q_tb := q_inT1 19 rfl rfl
theorem hn_r_parts : Cond.instanceMethod y_r_parts ∈ q_tb := q_inT7 21 rfl rfl
theorem hz_r_parts : Cond.selects y_r_parts.cls y_r_parts y_r_parts ∈ q_tb := q_inT7 22 rfl rfl
theorem hy_r_parts : y_r_parts.cls ≠ "java/lang/invoke/MethodHandle" ∧ y_r_parts.cls ≠ "java/lang/invoke/VarHandle" ∧ (parseMethodDescriptor y_r_parts.desc).map (fun d => d.parameters.length) = some 3 := by decide +kernel
def y_w_next : MethodName := ⟨"WhichSwitch", "next", "(III)I"⟩
theorem hc_w_next : Cond.code y_w_next prog_1_method_35_code 6 (some .int) ∈ q_tb := q_inT4 58 rfl rfl
theorem hi_w_next : Cond.initialized y_w_next.cls ∈ q_tb := q_inT1 1 rfl rfl
theorem hn_w_next : Cond.instanceMethod y_w_next ∈ q_tb := q_inT4 56 rfl rfl
theorem hz_w_next : Cond.selects y_w_next.cls y_w_next y_w_next ∈ q_tb := q_inT4 57 rfl rfl
theorem hy_w_next : y_w_next.cls ≠ "java/lang/invoke/MethodHandle" ∧ y_w_next.cls ≠ "java/lang/invoke/VarHandle" ∧ (parseMethodDescriptor y_w_next.desc).map (fun d => d.parameters.length) = some 3 := by decide +kernel
def y_r_next1 : MethodName := ⟨"WhichSwitchModel", "next", "(III)I"⟩
theorem hc_r_next1 : Cond.code y_r_next1 prog_13_method_61_code 6 (some .int) ∈ q_tb := q_inT7 39 rfl rfl
theorem hi_r_next1 : Cond.initialized y_r_next1.cls ∈ q_tb := q_inT1 19 rfl rfl
theorem hn_r_next1 : Cond.instanceMethod y_r_next1 ∈ q_tb := q_inT7 37 rfl rfl
theorem hz_r_next1 : Cond.selects y_r_next1.cls y_r_next1 y_r_next1 ∈ q_tb := q_inT7 38 rfl rfl
theorem hy_r_next1 : y_r_next1.cls ≠ "java/lang/invoke/MethodHandle" ∧ y_r_next1.cls ≠ "java/lang/invoke/VarHandle" ∧ (parseMethodDescriptor y_r_next1.desc).map (fun d => d.parameters.length) = some 3 := by decide +kernel
def y_w_ahead : MethodName := ⟨"WhichSwitch", "ahead", "(II)I"⟩
theorem hc_w_ahead : Cond.code y_w_ahead prog_1_method_36_code 9 (some .int) ∈ q_tb := q_inT4 66 rfl rfl
theorem hi_w_ahead : Cond.initialized y_w_ahead.cls ∈ q_tb := q_inT1 1 rfl rfl
theorem hn_w_ahead : Cond.instanceMethod y_w_ahead ∈ q_tb := q_inT4 64 rfl rfl
theorem hz_w_ahead : Cond.selects y_w_ahead.cls y_w_ahead y_w_ahead ∈ q_tb := q_inT4 65 rfl rfl
theorem hy_w_ahead : y_w_ahead.cls ≠ "java/lang/invoke/MethodHandle" ∧ y_w_ahead.cls ≠ "java/lang/invoke/VarHandle" ∧ (parseMethodDescriptor y_w_ahead.desc).map (fun d => d.parameters.length) = some 2 := by decide +kernel
def y_r_ahead : MethodName := ⟨"WhichSwitchModel", "ahead", "(II)I"⟩
theorem hc_r_ahead : Cond.code y_r_ahead prog_13_method_62_code 10 (some .int) ∈ q_tb := q_inT7 47 rfl rfl
theorem hi_r_ahead : Cond.initialized y_r_ahead.cls ∈ q_tb := q_inT1 19 rfl rfl
theorem hn_r_ahead : Cond.instanceMethod y_r_ahead ∈ q_tb := q_inT7 45 rfl rfl
theorem hz_r_ahead : Cond.selects y_r_ahead.cls y_r_ahead y_r_ahead ∈ q_tb := q_inT7 46 rfl rfl
theorem hy_r_ahead : y_r_ahead.cls ≠ "java/lang/invoke/MethodHandle" ∧ y_r_ahead.cls ≠ "java/lang/invoke/VarHandle" ∧ (parseMethodDescriptor y_r_ahead.desc).map (fun d => d.parameters.length) = some 2 := by decide +kernel
def y_w_plan : MethodName := ⟨"WhichSwitch", "plan", "(III)I"⟩
theorem hc_w_plan : Cond.code y_w_plan prog_1_method_37_code 7 (some .int) ∈ q_tb := q_inT4 74 rfl rfl
theorem hi_w_plan : Cond.initialized y_w_plan.cls ∈ q_tb := q_inT1 1 rfl rfl
theorem hn_w_plan : Cond.instanceMethod y_w_plan ∈ q_tb := q_inT4 72 rfl rfl
theorem hz_w_plan : Cond.selects y_w_plan.cls y_w_plan y_w_plan ∈ q_tb := q_inT4 73 rfl rfl
theorem hy_w_plan : y_w_plan.cls ≠ "java/lang/invoke/MethodHandle" ∧ y_w_plan.cls ≠ "java/lang/invoke/VarHandle" ∧ (parseMethodDescriptor y_w_plan.desc).map (fun d => d.parameters.length) = some 3 := by decide +kernel
def y_r_plan : MethodName := ⟨"WhichSwitchModel", "plan", "(III)I"⟩
theorem hc_r_plan : Cond.code y_r_plan prog_13_method_63_code 9 (some .int) ∈ q_tb := q_inT7 51 rfl rfl
theorem hi_r_plan : Cond.initialized y_r_plan.cls ∈ q_tb := q_inT1 19 rfl rfl
theorem hn_r_plan : Cond.instanceMethod y_r_plan ∈ q_tb := q_inT7 49 rfl rfl
theorem hz_r_plan : Cond.selects y_r_plan.cls y_r_plan y_r_plan ∈ q_tb := q_inT7 50 rfl rfl
theorem hy_r_plan : y_r_plan.cls ≠ "java/lang/invoke/MethodHandle" ∧ y_r_plan.cls ≠ "java/lang/invoke/VarHandle" ∧ (parseMethodDescriptor y_r_plan.desc).map (fun d => d.parameters.length) = some 3 := by decide +kernel
def y_w_bound : MethodName := ⟨"WhichSwitch", "bound", "()I"⟩
theorem hc_w_bound : Cond.code y_w_bound prog_1_method_38_code 3 (some .int) ∈ q_tb := q_inT4 78 rfl rfl
theorem hi_w_bound : Cond.initialized y_w_bound.cls ∈ q_tb := q_inT1 1 rfl rfl
theorem hn_w_bound : Cond.instanceMethod y_w_bound ∈ q_tb := q_inT4 76 rfl rfl
theorem hz_w_bound : Cond.selects y_w_bound.cls y_w_bound y_w_bound ∈ q_tb := q_inT4 77 rfl rfl
theorem hy_w_bound : y_w_bound.cls ≠ "java/lang/invoke/MethodHandle" ∧ y_w_bound.cls ≠ "java/lang/invoke/VarHandle" ∧ (parseMethodDescriptor y_w_bound.desc).map (fun d => d.parameters.length) = some 0 := by decide +kernel
def y_r_bound : MethodName := ⟨"WhichSwitchModel", "bound", "()I"⟩
theorem hc_r_bound : Cond.code y_r_bound prog_13_method_64_code 3 (some .int) ∈ q_tb := q_inT7 55 rfl rfl
theorem hi_r_bound : Cond.initialized y_r_bound.cls ∈ q_tb := q_inT1 19 rfl rfl
theorem hn_r_bound : Cond.instanceMethod y_r_bound ∈ q_tb := q_inT7 53 rfl rfl
theorem hz_r_bound : Cond.selects y_r_bound.cls y_r_bound y_r_bound ∈ q_tb := q_inT7 54 rfl rfl
theorem hy_r_bound : y_r_bound.cls ≠ "java/lang/invoke/MethodHandle" ∧ y_r_bound.cls ≠ "java/lang/invoke/VarHandle" ∧ (parseMethodDescriptor y_r_bound.desc).map (fun d => d.parameters.length) = some 0 := by decide +kernel
def y_w_sure : MethodName := ⟨"WhichSwitch", "sure", "(I)I"⟩
theorem hc_w_sure : Cond.code y_w_sure prog_1_method_49_code 3 (some .int) ∈ q_tb := q_inT4 82 rfl rfl
theorem hi_w_sure : Cond.initialized y_w_sure.cls ∈ q_tb := q_inT1 1 rfl rfl
theorem hn_w_sure : Cond.instanceMethod y_w_sure ∈ q_tb := q_inT4 80 rfl rfl
theorem hz_w_sure : Cond.selects y_w_sure.cls y_w_sure y_w_sure ∈ q_tb := q_inT4 81 rfl rfl
theorem hy_w_sure : y_w_sure.cls ≠ "java/lang/invoke/MethodHandle" ∧ y_w_sure.cls ≠ "java/lang/invoke/VarHandle" ∧ (parseMethodDescriptor y_w_sure.desc).map (fun d => d.parameters.length) = some 1 := by decide +kernel
def y_r_sure : MethodName := ⟨"WhichSwitchModel", "sure", "(I)I"⟩
theorem hc_r_sure : Cond.code y_r_sure prog_13_method_66_code 2 (some .int) ∈ q_tb := q_inT7 59 rfl rfl
theorem hi_r_sure : Cond.initialized y_r_sure.cls ∈ q_tb := q_inT1 19 rfl rfl
theorem hn_r_sure : Cond.instanceMethod y_r_sure ∈ q_tb := q_inT7 57 rfl rfl
theorem hz_r_sure : Cond.selects y_r_sure.cls y_r_sure y_r_sure ∈ q_tb := q_inT7 58 rfl rfl
theorem hy_r_sure : y_r_sure.cls ≠ "java/lang/invoke/MethodHandle" ∧ y_r_sure.cls ≠ "java/lang/invoke/VarHandle" ∧ (parseMethodDescriptor y_r_sure.desc).map (fun d => d.parameters.length) = some 1 := by decide +kernel
def y_w_grey : MethodName := ⟨"WhichSwitch", "grey", "()I"⟩
theorem hc_w_grey : Cond.code y_w_grey prog_1_method_50_code 4 (some .int) ∈ q_tb := q_inT4 90 rfl rfl
theorem hi_w_grey : Cond.initialized y_w_grey.cls ∈ q_tb := q_inT1 1 rfl rfl
theorem hn_w_grey : Cond.instanceMethod y_w_grey ∈ q_tb := q_inT4 88 rfl rfl
theorem hz_w_grey : Cond.selects y_w_grey.cls y_w_grey y_w_grey ∈ q_tb := q_inT4 89 rfl rfl
theorem hy_w_grey : y_w_grey.cls ≠ "java/lang/invoke/MethodHandle" ∧ y_w_grey.cls ≠ "java/lang/invoke/VarHandle" ∧ (parseMethodDescriptor y_w_grey.desc).map (fun d => d.parameters.length) = some 0 := by decide +kernel
def y_r_grey : MethodName := ⟨"WhichSwitchModel", "grey", "()I"⟩
theorem hc_r_grey : Cond.code y_r_grey prog_13_method_67_code 3 (some .int) ∈ q_tb := q_inT7 67 rfl rfl
theorem hi_r_grey : Cond.initialized y_r_grey.cls ∈ q_tb := q_inT1 19 rfl rfl
theorem hn_r_grey : Cond.instanceMethod y_r_grey ∈ q_tb := q_inT7 65 rfl rfl
theorem hz_r_grey : Cond.selects y_r_grey.cls y_r_grey y_r_grey ∈ q_tb := q_inT7 66 rfl rfl
theorem hy_r_grey : y_r_grey.cls ≠ "java/lang/invoke/MethodHandle" ∧ y_r_grey.cls ≠ "java/lang/invoke/VarHandle" ∧ (parseMethodDescriptor y_r_grey.desc).map (fun d => d.parameters.length) = some 0 := by decide +kernel
def y_w_live : MethodName := ⟨"WhichSwitch", "live", "(II)I"⟩
theorem hc_w_live : Cond.code y_w_live prog_1_method_51_code 3 (some .int) ∈ q_tb := q_inT4 94 rfl rfl
theorem hi_w_live : Cond.initialized y_w_live.cls ∈ q_tb := q_inT1 1 rfl rfl
theorem hn_w_live : Cond.instanceMethod y_w_live ∈ q_tb := q_inT4 92 rfl rfl
theorem hz_w_live : Cond.selects y_w_live.cls y_w_live y_w_live ∈ q_tb := q_inT4 93 rfl rfl
theorem hy_w_live : y_w_live.cls ≠ "java/lang/invoke/MethodHandle" ∧ y_w_live.cls ≠ "java/lang/invoke/VarHandle" ∧ (parseMethodDescriptor y_w_live.desc).map (fun d => d.parameters.length) = some 2 := by decide +kernel
def y_r_live : MethodName := ⟨"WhichSwitchModel", "live", "(II)I"⟩
theorem hc_r_live : Cond.code y_r_live prog_13_method_69_code 3 (some .int) ∈ q_tb := q_inT7 71 rfl rfl
theorem hi_r_live : Cond.initialized y_r_live.cls ∈ q_tb := q_inT1 19 rfl rfl
theorem hn_r_live : Cond.instanceMethod y_r_live ∈ q_tb := q_inT7 69 rfl rfl
theorem hz_r_live : Cond.selects y_r_live.cls y_r_live y_r_live ∈ q_tb := q_inT7 70 rfl rfl
theorem hy_r_live : y_r_live.cls ≠ "java/lang/invoke/MethodHandle" ∧ y_r_live.cls ≠ "java/lang/invoke/VarHandle" ∧ (parseMethodDescriptor y_r_live.desc).map (fun d => d.parameters.length) = some 2 := by decide +kernel
def y_w_dead : MethodName := ⟨"WhichSwitch", "dead", "(I)I"⟩
theorem hc_w_dead : Cond.code y_w_dead prog_1_method_52_code 6 (some .int) ∈ q_tb := q_inT4 102 rfl rfl
theorem hi_w_dead : Cond.initialized y_w_dead.cls ∈ q_tb := q_inT1 1 rfl rfl
theorem hn_w_dead : Cond.instanceMethod y_w_dead ∈ q_tb := q_inT4 100 rfl rfl
theorem hz_w_dead : Cond.selects y_w_dead.cls y_w_dead y_w_dead ∈ q_tb := q_inT4 101 rfl rfl
theorem hy_w_dead : y_w_dead.cls ≠ "java/lang/invoke/MethodHandle" ∧ y_w_dead.cls ≠ "java/lang/invoke/VarHandle" ∧ (parseMethodDescriptor y_w_dead.desc).map (fun d => d.parameters.length) = some 1 := by decide +kernel
def y_r_dead : MethodName := ⟨"WhichSwitchModel", "dead", "(I)I"⟩
theorem hc_r_dead : Cond.code y_r_dead prog_13_method_70_code 5 (some .int) ∈ q_tb := q_inT7 79 rfl rfl
theorem hi_r_dead : Cond.initialized y_r_dead.cls ∈ q_tb := q_inT1 19 rfl rfl
theorem hn_r_dead : Cond.instanceMethod y_r_dead ∈ q_tb := q_inT7 77 rfl rfl
theorem hz_r_dead : Cond.selects y_r_dead.cls y_r_dead y_r_dead ∈ q_tb := q_inT7 78 rfl rfl
theorem hy_r_dead : y_r_dead.cls ≠ "java/lang/invoke/MethodHandle" ∧ y_r_dead.cls ≠ "java/lang/invoke/VarHandle" ∧ (parseMethodDescriptor y_r_dead.desc).map (fun d => d.parameters.length) = some 1 := by decide +kernel
def y_w_touch : MethodName := ⟨"WhichSwitch", "touch", "()I"⟩
theorem hc_w_touch : Cond.code y_w_touch prog_1_method_53_code 4 (some .int) ∈ q_tb := q_inT4 106 rfl rfl
theorem hi_w_touch : Cond.initialized y_w_touch.cls ∈ q_tb := q_inT1 1 rfl rfl
theorem hn_w_touch : Cond.instanceMethod y_w_touch ∈ q_tb := q_inT4 104 rfl rfl
theorem hz_w_touch : Cond.selects y_w_touch.cls y_w_touch y_w_touch ∈ q_tb := q_inT4 105 rfl rfl
theorem hy_w_touch : y_w_touch.cls ≠ "java/lang/invoke/MethodHandle" ∧ y_w_touch.cls ≠ "java/lang/invoke/VarHandle" ∧ (parseMethodDescriptor y_w_touch.desc).map (fun d => d.parameters.length) = some 0 := by decide +kernel
def y_r_touch : MethodName := ⟨"WhichSwitchModel", "touch", "()I"⟩
theorem hc_r_touch : Cond.code y_r_touch prog_13_method_71_code 4 (some .int) ∈ q_tb := q_inT7 83 rfl rfl
theorem hi_r_touch : Cond.initialized y_r_touch.cls ∈ q_tb := q_inT1 19 rfl rfl
theorem hn_r_touch : Cond.instanceMethod y_r_touch ∈ q_tb := q_inT7 81 rfl rfl
theorem hz_r_touch : Cond.selects y_r_touch.cls y_r_touch y_r_touch ∈ q_tb := q_inT7 82 rfl rfl
theorem hy_r_touch : y_r_touch.cls ≠ "java/lang/invoke/MethodHandle" ∧ y_r_touch.cls ≠ "java/lang/invoke/VarHandle" ∧ (parseMethodDescriptor y_r_touch.desc).map (fun d => d.parameters.length) = some 0 := by decide +kernel
def y_w_sums : MethodName := ⟨"WhichSwitch", "sums", "(I)I"⟩
theorem hc_w_sums : Cond.code y_w_sums prog_1_method_56_code 3 (some .int) ∈ q_tb := q_inT4 110 rfl rfl
theorem hi_w_sums : Cond.initialized y_w_sums.cls ∈ q_tb := q_inT1 1 rfl rfl
theorem hn_w_sums : Cond.instanceMethod y_w_sums ∈ q_tb := q_inT4 108 rfl rfl
theorem hz_w_sums : Cond.selects y_w_sums.cls y_w_sums y_w_sums ∈ q_tb := q_inT4 109 rfl rfl
theorem hy_w_sums : y_w_sums.cls ≠ "java/lang/invoke/MethodHandle" ∧ y_w_sums.cls ≠ "java/lang/invoke/VarHandle" ∧ (parseMethodDescriptor y_w_sums.desc).map (fun d => d.parameters.length) = some 1 := by decide +kernel
def y_r_sums : MethodName := ⟨"WhichSwitchModel", "sums", "(I)I"⟩
theorem hc_r_sums : Cond.code y_r_sums prog_13_method_74_code 2 (some .int) ∈ q_tb := q_inT7 87 rfl rfl
theorem hi_r_sums : Cond.initialized y_r_sums.cls ∈ q_tb := q_inT1 19 rfl rfl
theorem hn_r_sums : Cond.instanceMethod y_r_sums ∈ q_tb := q_inT7 85 rfl rfl
theorem hz_r_sums : Cond.selects y_r_sums.cls y_r_sums y_r_sums ∈ q_tb := q_inT7 86 rfl rfl
theorem hy_r_sums : y_r_sums.cls ≠ "java/lang/invoke/MethodHandle" ∧ y_r_sums.cls ≠ "java/lang/invoke/VarHandle" ∧ (parseMethodDescriptor y_r_sums.desc).map (fun d => d.parameters.length) = some 1 := by decide +kernel
def y_w_which : MethodName := ⟨"WhichSwitch", "which", "(II)I"⟩
theorem hc_w_which : Cond.code y_w_which prog_1_method_57_code 6 (some .int) ∈ q_tb := q_inT4 136 rfl rfl
theorem hi_w_which : Cond.initialized y_w_which.cls ∈ q_tb := q_inT1 1 rfl rfl
theorem hn_w_which : Cond.instanceMethod y_w_which ∈ q_tb := q_inT4 134 rfl rfl
theorem hz_w_which : Cond.selects y_w_which.cls y_w_which y_w_which ∈ q_tb := q_inT4 135 rfl rfl
theorem hy_w_which : y_w_which.cls ≠ "java/lang/invoke/MethodHandle" ∧ y_w_which.cls ≠ "java/lang/invoke/VarHandle" ∧ (parseMethodDescriptor y_w_which.desc).map (fun d => d.parameters.length) = some 2 := by decide +kernel
def y_r_which : MethodName := ⟨"WhichSwitchModel", "which", "(II)I"⟩
theorem hc_r_which : Cond.code y_r_which prog_13_method_75_code 6 (some .int) ∈ q_tb := q_inT7 99 rfl rfl
theorem hi_r_which : Cond.initialized y_r_which.cls ∈ q_tb := q_inT1 19 rfl rfl
theorem hn_r_which : Cond.instanceMethod y_r_which ∈ q_tb := q_inT7 97 rfl rfl
theorem hz_r_which : Cond.selects y_r_which.cls y_r_which y_r_which ∈ q_tb := q_inT7 98 rfl rfl
theorem hy_r_which : y_r_which.cls ≠ "java/lang/invoke/MethodHandle" ∧ y_r_which.cls ≠ "java/lang/invoke/VarHandle" ∧ (parseMethodDescriptor y_r_which.desc).map (fun d => d.parameters.length) = some 2 := by decide +kernel
def y_w_put : MethodName := ⟨"WhichSwitch", "put", "(I)I"⟩
theorem hc_w_put : Cond.code y_w_put prog_1_method_58_code 4 (some .int) ∈ q_tb := q_inT4 144 rfl rfl
theorem hi_w_put : Cond.initialized y_w_put.cls ∈ q_tb := q_inT1 1 rfl rfl
theorem hn_w_put : Cond.instanceMethod y_w_put ∈ q_tb := q_inT4 142 rfl rfl
theorem hz_w_put : Cond.selects y_w_put.cls y_w_put y_w_put ∈ q_tb := q_inT4 143 rfl rfl
theorem hy_w_put : y_w_put.cls ≠ "java/lang/invoke/MethodHandle" ∧ y_w_put.cls ≠ "java/lang/invoke/VarHandle" ∧ (parseMethodDescriptor y_w_put.desc).map (fun d => d.parameters.length) = some 1 := by decide +kernel
def y_r_put : MethodName := ⟨"WhichSwitchModel", "put", "(I)I"⟩
theorem hc_r_put : Cond.code y_r_put prog_13_method_76_code 7 (some .int) ∈ q_tb := q_inT7 103 rfl rfl
theorem hi_r_put : Cond.initialized y_r_put.cls ∈ q_tb := q_inT1 19 rfl rfl
theorem hn_r_put : Cond.instanceMethod y_r_put ∈ q_tb := q_inT7 101 rfl rfl
theorem hz_r_put : Cond.selects y_r_put.cls y_r_put y_r_put ∈ q_tb := q_inT7 102 rfl rfl
theorem hy_r_put : y_r_put.cls ≠ "java/lang/invoke/MethodHandle" ∧ y_r_put.cls ≠ "java/lang/invoke/VarHandle" ∧ (parseMethodDescriptor y_r_put.desc).map (fun d => d.parameters.length) = some 1 := by decide +kernel
def y_w_label : MethodName := ⟨"WhichSwitch", "label", "(II)I"⟩
theorem hc_w_label : Cond.code y_w_label prog_1_method_61_code 4 (some .int) ∈ q_tb := q_inT4 156 rfl rfl
theorem hi_w_label : Cond.initialized y_w_label.cls ∈ q_tb := q_inT1 1 rfl rfl
theorem hn_w_label : Cond.instanceMethod y_w_label ∈ q_tb := q_inT4 154 rfl rfl
theorem hz_w_label : Cond.selects y_w_label.cls y_w_label y_w_label ∈ q_tb := q_inT4 155 rfl rfl
theorem hy_w_label : y_w_label.cls ≠ "java/lang/invoke/MethodHandle" ∧ y_w_label.cls ≠ "java/lang/invoke/VarHandle" ∧ (parseMethodDescriptor y_w_label.desc).map (fun d => d.parameters.length) = some 2 := by decide +kernel
def y_r_label : MethodName := ⟨"WhichSwitchModel", "label", "(II)I"⟩
theorem hc_r_label : Cond.code y_r_label prog_13_method_77_code 5 (some .int) ∈ q_tb := q_inT7 107 rfl rfl
theorem hi_r_label : Cond.initialized y_r_label.cls ∈ q_tb := q_inT1 19 rfl rfl
theorem hn_r_label : Cond.instanceMethod y_r_label ∈ q_tb := q_inT7 105 rfl rfl
theorem hz_r_label : Cond.selects y_r_label.cls y_r_label y_r_label ∈ q_tb := q_inT7 106 rfl rfl
theorem hy_r_label : y_r_label.cls ≠ "java/lang/invoke/MethodHandle" ∧ y_r_label.cls ≠ "java/lang/invoke/VarHandle" ∧ (parseMethodDescriptor y_r_label.desc).map (fun d => d.parameters.length) = some 2 := by decide +kernel
def y_w_agree : MethodName := ⟨"WhichSwitch", "agree", "(II)I"⟩
theorem hc_w_agree : Cond.code y_w_agree prog_1_method_62_code 3 (some .int) ∈ q_tb := q_inT4 160 rfl rfl
theorem hi_w_agree : Cond.initialized y_w_agree.cls ∈ q_tb := q_inT1 1 rfl rfl
theorem hn_w_agree : Cond.instanceMethod y_w_agree ∈ q_tb := q_inT4 158 rfl rfl
theorem hz_w_agree : Cond.selects y_w_agree.cls y_w_agree y_w_agree ∈ q_tb := q_inT4 159 rfl rfl
theorem hy_w_agree : y_w_agree.cls ≠ "java/lang/invoke/MethodHandle" ∧ y_w_agree.cls ≠ "java/lang/invoke/VarHandle" ∧ (parseMethodDescriptor y_w_agree.desc).map (fun d => d.parameters.length) = some 2 := by decide +kernel
def y_r_agree : MethodName := ⟨"WhichSwitchModel", "agree", "(II)I"⟩
theorem hc_r_agree : Cond.code y_r_agree prog_13_method_79_code 3 (some .int) ∈ q_tb := q_inT7 111 rfl rfl
theorem hi_r_agree : Cond.initialized y_r_agree.cls ∈ q_tb := q_inT1 19 rfl rfl
theorem hn_r_agree : Cond.instanceMethod y_r_agree ∈ q_tb := q_inT7 109 rfl rfl
theorem hz_r_agree : Cond.selects y_r_agree.cls y_r_agree y_r_agree ∈ q_tb := q_inT7 110 rfl rfl
theorem hy_r_agree : y_r_agree.cls ≠ "java/lang/invoke/MethodHandle" ∧ y_r_agree.cls ≠ "java/lang/invoke/VarHandle" ∧ (parseMethodDescriptor y_r_agree.desc).map (fun d => d.parameters.length) = some 2 := by decide +kernel
def y_w_right : MethodName := ⟨"WhichSwitch", "right", "()I"⟩
theorem hc_w_right : Cond.code y_w_right prog_1_method_63_code 6 (some .int) ∈ q_tb := q_inT4 172 rfl rfl
theorem hi_w_right : Cond.initialized y_w_right.cls ∈ q_tb := q_inT1 1 rfl rfl
theorem hn_w_right : Cond.instanceMethod y_w_right ∈ q_tb := q_inT4 170 rfl rfl
theorem hz_w_right : Cond.selects y_w_right.cls y_w_right y_w_right ∈ q_tb := q_inT4 171 rfl rfl
theorem hy_w_right : y_w_right.cls ≠ "java/lang/invoke/MethodHandle" ∧ y_w_right.cls ≠ "java/lang/invoke/VarHandle" ∧ (parseMethodDescriptor y_w_right.desc).map (fun d => d.parameters.length) = some 0 := by decide +kernel
def y_r_right : MethodName := ⟨"WhichSwitchModel", "right", "()I"⟩
theorem hc_r_right : Cond.code y_r_right prog_13_method_81_code 5 (some .int) ∈ q_tb := q_inT7 119 rfl rfl
theorem hi_r_right : Cond.initialized y_r_right.cls ∈ q_tb := q_inT1 19 rfl rfl
theorem hn_r_right : Cond.instanceMethod y_r_right ∈ q_tb := q_inT7 117 rfl rfl
theorem hz_r_right : Cond.selects y_r_right.cls y_r_right y_r_right ∈ q_tb := q_inT7 118 rfl rfl
theorem hy_r_right : y_r_right.cls ≠ "java/lang/invoke/MethodHandle" ∧ y_r_right.cls ≠ "java/lang/invoke/VarHandle" ∧ (parseMethodDescriptor y_r_right.desc).map (fun d => d.parameters.length) = some 0 := by decide +kernel
def y_w_odds : MethodName := ⟨"WhichSwitch", "odds", "(II)J"⟩
theorem hc_w_odds : Cond.code y_w_odds prog_1_method_64_code 7 (some .long) ∈ q_tb := q_inT4 180 rfl rfl
theorem hi_w_odds : Cond.initialized y_w_odds.cls ∈ q_tb := q_inT1 1 rfl rfl
theorem hn_w_odds : Cond.instanceMethod y_w_odds ∈ q_tb := q_inT4 178 rfl rfl
theorem hz_w_odds : Cond.selects y_w_odds.cls y_w_odds y_w_odds ∈ q_tb := q_inT4 179 rfl rfl
theorem hy_w_odds : y_w_odds.cls ≠ "java/lang/invoke/MethodHandle" ∧ y_w_odds.cls ≠ "java/lang/invoke/VarHandle" ∧ (parseMethodDescriptor y_w_odds.desc).map (fun d => d.parameters.length) = some 2 := by decide +kernel
def y_r_odds : MethodName := ⟨"WhichSwitchModel", "odds", "(II)J"⟩
theorem hc_r_odds : Cond.code y_r_odds prog_13_method_82_code 8 (some .long) ∈ q_tb := q_inT7 127 rfl rfl
theorem hi_r_odds : Cond.initialized y_r_odds.cls ∈ q_tb := q_inT1 19 rfl rfl
theorem hn_r_odds : Cond.instanceMethod y_r_odds ∈ q_tb := q_inT7 125 rfl rfl
theorem hz_r_odds : Cond.selects y_r_odds.cls y_r_odds y_r_odds ∈ q_tb := q_inT7 126 rfl rfl
theorem hy_r_odds : y_r_odds.cls ≠ "java/lang/invoke/MethodHandle" ∧ y_r_odds.cls ≠ "java/lang/invoke/VarHandle" ∧ (parseMethodDescriptor y_r_odds.desc).map (fun d => d.parameters.length) = some 2 := by decide +kernel
def y_w_wall : MethodName := ⟨"WhichSwitch", "wall", "(III)I"⟩
theorem hc_w_wall : Cond.code y_w_wall prog_1_method_65_code 9 (some .int) ∈ q_tb := q_inT4 188 rfl rfl
theorem hi_w_wall : Cond.initialized y_w_wall.cls ∈ q_tb := q_inT1 1 rfl rfl
theorem hn_w_wall : Cond.instanceMethod y_w_wall ∈ q_tb := q_inT4 186 rfl rfl
theorem hz_w_wall : Cond.selects y_w_wall.cls y_w_wall y_w_wall ∈ q_tb := q_inT4 187 rfl rfl
theorem hy_w_wall : y_w_wall.cls ≠ "java/lang/invoke/MethodHandle" ∧ y_w_wall.cls ≠ "java/lang/invoke/VarHandle" ∧ (parseMethodDescriptor y_w_wall.desc).map (fun d => d.parameters.length) = some 3 := by decide +kernel
def y_r_wall : MethodName := ⟨"WhichSwitchModel", "wall", "(III)I"⟩
theorem hc_r_wall : Cond.code y_r_wall prog_13_method_85_code 10 (some .int) ∈ q_tb := q_inT7 132 rfl rfl
theorem hi_r_wall : Cond.initialized y_r_wall.cls ∈ q_tb := q_inT1 19 rfl rfl
theorem hn_r_wall : Cond.instanceMethod y_r_wall ∈ q_tb := q_inT7 130 rfl rfl
theorem hz_r_wall : Cond.selects y_r_wall.cls y_r_wall y_r_wall ∈ q_tb := q_inT7 131 rfl rfl
theorem hy_r_wall : y_r_wall.cls ≠ "java/lang/invoke/MethodHandle" ∧ y_r_wall.cls ≠ "java/lang/invoke/VarHandle" ∧ (parseMethodDescriptor y_r_wall.desc).map (fun d => d.parameters.length) = some 3 := by decide +kernel
def y_w_broken : MethodName := ⟨"WhichSwitch", "broken", "(III)I"⟩
theorem hc_w_broken : Cond.code y_w_broken prog_1_method_71_code 9 (some .int) ∈ q_tb := q_inT4 203 rfl rfl
theorem hi_w_broken : Cond.initialized y_w_broken.cls ∈ q_tb := q_inT1 1 rfl rfl
theorem hn_w_broken : Cond.instanceMethod y_w_broken ∈ q_tb := q_inT4 201 rfl rfl
theorem hz_w_broken : Cond.selects y_w_broken.cls y_w_broken y_w_broken ∈ q_tb := q_inT4 202 rfl rfl
theorem hy_w_broken : y_w_broken.cls ≠ "java/lang/invoke/MethodHandle" ∧ y_w_broken.cls ≠ "java/lang/invoke/VarHandle" ∧ (parseMethodDescriptor y_w_broken.desc).map (fun d => d.parameters.length) = some 3 := by decide +kernel
def y_r_broken : MethodName := ⟨"WhichSwitchModel", "broken", "(III)I"⟩
theorem hc_r_broken : Cond.code y_r_broken prog_13_method_86_code 7 (some .int) ∈ q_tb := q_inT7 143 rfl rfl
theorem hi_r_broken : Cond.initialized y_r_broken.cls ∈ q_tb := q_inT1 19 rfl rfl
theorem hn_r_broken : Cond.instanceMethod y_r_broken ∈ q_tb := q_inT7 141 rfl rfl
theorem hz_r_broken : Cond.selects y_r_broken.cls y_r_broken y_r_broken ∈ q_tb := q_inT7 142 rfl rfl
theorem hy_r_broken : y_r_broken.cls ≠ "java/lang/invoke/MethodHandle" ∧ y_r_broken.cls ≠ "java/lang/invoke/VarHandle" ∧ (parseMethodDescriptor y_r_broken.desc).map (fun d => d.parameters.length) = some 3 := by decide +kernel
def y_w_load : MethodName := ⟨"WhichSwitch", "load", "(II)I"⟩
theorem hc_w_load : Cond.code y_w_load prog_1_method_72_code 3 (some .int) ∈ q_tb := q_inT4 207 rfl rfl
theorem hi_w_load : Cond.initialized y_w_load.cls ∈ q_tb := q_inT1 1 rfl rfl
theorem hn_w_load : Cond.instanceMethod y_w_load ∈ q_tb := q_inT4 205 rfl rfl
theorem hz_w_load : Cond.selects y_w_load.cls y_w_load y_w_load ∈ q_tb := q_inT4 206 rfl rfl
theorem hy_w_load : y_w_load.cls ≠ "java/lang/invoke/MethodHandle" ∧ y_w_load.cls ≠ "java/lang/invoke/VarHandle" ∧ (parseMethodDescriptor y_w_load.desc).map (fun d => d.parameters.length) = some 2 := by decide +kernel
def y_r_load : MethodName := ⟨"WhichSwitchModel", "load", "(II)I"⟩
theorem hc_r_load : Cond.code y_r_load prog_13_method_88_code 3 (some .int) ∈ q_tb := q_inT7 147 rfl rfl
theorem hi_r_load : Cond.initialized y_r_load.cls ∈ q_tb := q_inT1 19 rfl rfl
theorem hn_r_load : Cond.instanceMethod y_r_load ∈ q_tb := q_inT7 145 rfl rfl
theorem hz_r_load : Cond.selects y_r_load.cls y_r_load y_r_load ∈ q_tb := q_inT7 146 rfl rfl
theorem hy_r_load : y_r_load.cls ≠ "java/lang/invoke/MethodHandle" ∧ y_r_load.cls ≠ "java/lang/invoke/VarHandle" ∧ (parseMethodDescriptor y_r_load.desc).map (fun d => d.parameters.length) = some 2 := by decide +kernel
def y_w_over : MethodName := ⟨"WhichSwitch", "over", "(I)I"⟩
theorem hc_w_over : Cond.code y_w_over prog_1_method_73_code 5 (some .int) ∈ q_tb := q_inT4 227 rfl rfl
theorem hi_w_over : Cond.initialized y_w_over.cls ∈ q_tb := q_inT1 1 rfl rfl
theorem hn_w_over : Cond.instanceMethod y_w_over ∈ q_tb := q_inT4 225 rfl rfl
theorem hz_w_over : Cond.selects y_w_over.cls y_w_over y_w_over ∈ q_tb := q_inT4 226 rfl rfl
theorem hy_w_over : y_w_over.cls ≠ "java/lang/invoke/MethodHandle" ∧ y_w_over.cls ≠ "java/lang/invoke/VarHandle" ∧ (parseMethodDescriptor y_w_over.desc).map (fun d => d.parameters.length) = some 1 := by decide +kernel
def y_r_over : MethodName := ⟨"WhichSwitchModel", "over", "(I)I"⟩
theorem hc_r_over : Cond.code y_r_over prog_13_method_89_code 4 (some .int) ∈ q_tb := q_inT7 155 rfl rfl
theorem hi_r_over : Cond.initialized y_r_over.cls ∈ q_tb := q_inT1 19 rfl rfl
theorem hn_r_over : Cond.instanceMethod y_r_over ∈ q_tb := q_inT7 153 rfl rfl
theorem hz_r_over : Cond.selects y_r_over.cls y_r_over y_r_over ∈ q_tb := q_inT7 154 rfl rfl
theorem hy_r_over : y_r_over.cls ≠ "java/lang/invoke/MethodHandle" ∧ y_r_over.cls ≠ "java/lang/invoke/VarHandle" ∧ (parseMethodDescriptor y_r_over.desc).map (fun d => d.parameters.length) = some 1 := by decide +kernel
def y_w_thick : MethodName := ⟨"WhichSwitch", "thick", "(II)I"⟩
theorem hc_w_thick : Cond.code y_w_thick prog_1_method_74_code 8 (some .int) ∈ q_tb := q_inT4 231 rfl rfl
theorem hi_w_thick : Cond.initialized y_w_thick.cls ∈ q_tb := q_inT1 1 rfl rfl
theorem hn_w_thick : Cond.instanceMethod y_w_thick ∈ q_tb := q_inT4 229 rfl rfl
theorem hz_w_thick : Cond.selects y_w_thick.cls y_w_thick y_w_thick ∈ q_tb := q_inT4 230 rfl rfl
theorem hy_w_thick : y_w_thick.cls ≠ "java/lang/invoke/MethodHandle" ∧ y_w_thick.cls ≠ "java/lang/invoke/VarHandle" ∧ (parseMethodDescriptor y_w_thick.desc).map (fun d => d.parameters.length) = some 2 := by decide +kernel
def y_r_thick : MethodName := ⟨"WhichSwitchModel", "thick", "(II)I"⟩
theorem hc_r_thick : Cond.code y_r_thick prog_13_method_90_code 6 (some .int) ∈ q_tb := q_inT7 159 rfl rfl
theorem hi_r_thick : Cond.initialized y_r_thick.cls ∈ q_tb := q_inT1 19 rfl rfl
theorem hn_r_thick : Cond.instanceMethod y_r_thick ∈ q_tb := q_inT7 157 rfl rfl
theorem hz_r_thick : Cond.selects y_r_thick.cls y_r_thick y_r_thick ∈ q_tb := q_inT7 158 rfl rfl
theorem hy_r_thick : y_r_thick.cls ≠ "java/lang/invoke/MethodHandle" ∧ y_r_thick.cls ≠ "java/lang/invoke/VarHandle" ∧ (parseMethodDescriptor y_r_thick.desc).map (fun d => d.parameters.length) = some 2 := by decide +kernel
def y_w_meter : MethodName := ⟨"WhichSwitch", "meter", "(I)I"⟩
theorem hc_w_meter : Cond.code y_w_meter prog_1_method_75_code 2 (some .int) ∈ q_tb := q_inT4 239 rfl rfl
theorem hi_w_meter : Cond.initialized y_w_meter.cls ∈ q_tb := q_inT1 1 rfl rfl
theorem hn_w_meter : Cond.instanceMethod y_w_meter ∈ q_tb := q_inT4 237 rfl rfl
theorem hz_w_meter : Cond.selects y_w_meter.cls y_w_meter y_w_meter ∈ q_tb := q_inT4 238 rfl rfl
theorem hy_w_meter : y_w_meter.cls ≠ "java/lang/invoke/MethodHandle" ∧ y_w_meter.cls ≠ "java/lang/invoke/VarHandle" ∧ (parseMethodDescriptor y_w_meter.desc).map (fun d => d.parameters.length) = some 1 := by decide +kernel
def y_r_meter : MethodName := ⟨"WhichSwitchModel", "meter", "(I)I"⟩
theorem hc_r_meter : Cond.code y_r_meter prog_13_method_92_code 2 (some .int) ∈ q_tb := q_inT7 163 rfl rfl
theorem hi_r_meter : Cond.initialized y_r_meter.cls ∈ q_tb := q_inT1 19 rfl rfl
theorem hn_r_meter : Cond.instanceMethod y_r_meter ∈ q_tb := q_inT7 161 rfl rfl
theorem hz_r_meter : Cond.selects y_r_meter.cls y_r_meter y_r_meter ∈ q_tb := q_inT7 162 rfl rfl
theorem hy_r_meter : y_r_meter.cls ≠ "java/lang/invoke/MethodHandle" ∧ y_r_meter.cls ≠ "java/lang/invoke/VarHandle" ∧ (parseMethodDescriptor y_r_meter.desc).map (fun d => d.parameters.length) = some 1 := by decide +kernel
def y_w_witness : MethodName := ⟨"WhichSwitch", "witness", "(II)I"⟩
theorem hc_w_witness : Cond.code y_w_witness prog_1_method_76_code 6 (some .int) ∈ q_tb := q_inT5 3 rfl rfl
theorem hi_w_witness : Cond.initialized y_w_witness.cls ∈ q_tb := q_inT1 1 rfl rfl
theorem hn_w_witness : Cond.instanceMethod y_w_witness ∈ q_tb := q_inT5 1 rfl rfl
theorem hz_w_witness : Cond.selects y_w_witness.cls y_w_witness y_w_witness ∈ q_tb := q_inT5 2 rfl rfl
theorem hy_w_witness : y_w_witness.cls ≠ "java/lang/invoke/MethodHandle" ∧ y_w_witness.cls ≠ "java/lang/invoke/VarHandle" ∧ (parseMethodDescriptor y_w_witness.desc).map (fun d => d.parameters.length) = some 2 := by decide +kernel
def y_r_witness : MethodName := ⟨"WhichSwitchModel", "witness", "(II)I"⟩
theorem hc_r_witness : Cond.code y_r_witness prog_13_method_93_code 6 (some .int) ∈ q_tb := q_inT7 171 rfl rfl
theorem hi_r_witness : Cond.initialized y_r_witness.cls ∈ q_tb := q_inT1 19 rfl rfl
theorem hn_r_witness : Cond.instanceMethod y_r_witness ∈ q_tb := q_inT7 169 rfl rfl
theorem hz_r_witness : Cond.selects y_r_witness.cls y_r_witness y_r_witness ∈ q_tb := q_inT7 170 rfl rfl
theorem hy_r_witness : y_r_witness.cls ≠ "java/lang/invoke/MethodHandle" ∧ y_r_witness.cls ≠ "java/lang/invoke/VarHandle" ∧ (parseMethodDescriptor y_r_witness.desc).map (fun d => d.parameters.length) = some 2 := by decide +kernel
def y_w_order : MethodName := ⟨"WhichSwitch", "order", "(II)J"⟩
theorem hc_w_order : Cond.code y_w_order prog_1_method_77_code 11 (some .long) ∈ q_tb := q_inT5 8 rfl rfl
theorem hi_w_order : Cond.initialized y_w_order.cls ∈ q_tb := q_inT1 1 rfl rfl
theorem hn_w_order : Cond.instanceMethod y_w_order ∈ q_tb := q_inT5 6 rfl rfl
theorem hz_w_order : Cond.selects y_w_order.cls y_w_order y_w_order ∈ q_tb := q_inT5 7 rfl rfl
theorem hy_w_order : y_w_order.cls ≠ "java/lang/invoke/MethodHandle" ∧ y_w_order.cls ≠ "java/lang/invoke/VarHandle" ∧ (parseMethodDescriptor y_w_order.desc).map (fun d => d.parameters.length) = some 2 := by decide +kernel
def y_r_order : MethodName := ⟨"WhichSwitchModel", "order", "(II)J"⟩
theorem hc_r_order : Cond.code y_r_order prog_13_method_94_code 12 (some .long) ∈ q_tb := q_inT7 176 rfl rfl
theorem hi_r_order : Cond.initialized y_r_order.cls ∈ q_tb := q_inT1 19 rfl rfl
theorem hn_r_order : Cond.instanceMethod y_r_order ∈ q_tb := q_inT7 174 rfl rfl
theorem hz_r_order : Cond.selects y_r_order.cls y_r_order y_r_order ∈ q_tb := q_inT7 175 rfl rfl
theorem hy_r_order : y_r_order.cls ≠ "java/lang/invoke/MethodHandle" ∧ y_r_order.cls ≠ "java/lang/invoke/VarHandle" ∧ (parseMethodDescriptor y_r_order.desc).map (fun d => d.parameters.length) = some 2 := by decide +kernel
def y_w_drawn : MethodName := ⟨"WhichSwitch", "drawn", "(III)I"⟩
theorem hc_w_drawn : Cond.code y_w_drawn prog_1_method_78_code 9 (some .int) ∈ q_tb := q_inT5 17 rfl rfl
theorem hi_w_drawn : Cond.initialized y_w_drawn.cls ∈ q_tb := q_inT1 1 rfl rfl
theorem hn_w_drawn : Cond.instanceMethod y_w_drawn ∈ q_tb := q_inT5 15 rfl rfl
theorem hz_w_drawn : Cond.selects y_w_drawn.cls y_w_drawn y_w_drawn ∈ q_tb := q_inT5 16 rfl rfl
theorem hy_w_drawn : y_w_drawn.cls ≠ "java/lang/invoke/MethodHandle" ∧ y_w_drawn.cls ≠ "java/lang/invoke/VarHandle" ∧ (parseMethodDescriptor y_w_drawn.desc).map (fun d => d.parameters.length) = some 3 := by decide +kernel
def y_r_drawn : MethodName := ⟨"WhichSwitchModel", "drawn", "(III)I"⟩
theorem hc_r_drawn : Cond.code y_r_drawn prog_13_method_95_code 9 (some .int) ∈ q_tb := q_inT7 181 rfl rfl
theorem hi_r_drawn : Cond.initialized y_r_drawn.cls ∈ q_tb := q_inT1 19 rfl rfl
theorem hn_r_drawn : Cond.instanceMethod y_r_drawn ∈ q_tb := q_inT7 179 rfl rfl
theorem hz_r_drawn : Cond.selects y_r_drawn.cls y_r_drawn y_r_drawn ∈ q_tb := q_inT7 180 rfl rfl
theorem hy_r_drawn : y_r_drawn.cls ≠ "java/lang/invoke/MethodHandle" ∧ y_r_drawn.cls ≠ "java/lang/invoke/VarHandle" ∧ (parseMethodDescriptor y_r_drawn.desc).map (fun d => d.parameters.length) = some 3 := by decide +kernel
def y_w_image : MethodName := ⟨"WhichSwitch", "image", "()I"⟩
theorem hc_w_image : Cond.code y_w_image prog_1_method_79_code 1 (some .int) ∈ q_tb := q_inT5 27 rfl rfl
theorem hi_w_image : Cond.initialized y_w_image.cls ∈ q_tb := q_inT1 1 rfl rfl
theorem hn_w_image : Cond.instanceMethod y_w_image ∈ q_tb := q_inT5 25 rfl rfl
theorem hz_w_image : Cond.selects y_w_image.cls y_w_image y_w_image ∈ q_tb := q_inT5 26 rfl rfl
theorem hy_w_image : y_w_image.cls ≠ "java/lang/invoke/MethodHandle" ∧ y_w_image.cls ≠ "java/lang/invoke/VarHandle" ∧ (parseMethodDescriptor y_w_image.desc).map (fun d => d.parameters.length) = some 0 := by decide +kernel
def y_r_image : MethodName := ⟨"WhichSwitchModel", "image", "()I"⟩
theorem hc_r_image : Cond.code y_r_image prog_13_method_96_code 2 (some .int) ∈ q_tb := q_inT7 188 rfl rfl
theorem hi_r_image : Cond.initialized y_r_image.cls ∈ q_tb := q_inT1 19 rfl rfl
theorem hn_r_image : Cond.instanceMethod y_r_image ∈ q_tb := q_inT7 186 rfl rfl
theorem hz_r_image : Cond.selects y_r_image.cls y_r_image y_r_image ∈ q_tb := q_inT7 187 rfl rfl
theorem hy_r_image : y_r_image.cls ≠ "java/lang/invoke/MethodHandle" ∧ y_r_image.cls ≠ "java/lang/invoke/VarHandle" ∧ (parseMethodDescriptor y_r_image.desc).map (fun d => d.parameters.length) = some 0 := by decide +kernel
def y_w_back : MethodName := ⟨"WhichSwitch", "back", "()I"⟩
theorem hc_w_back : Cond.code y_w_back prog_1_method_80_code 1 (some .int) ∈ q_tb := q_inT5 40 rfl rfl
theorem hi_w_back : Cond.initialized y_w_back.cls ∈ q_tb := q_inT1 1 rfl rfl
theorem hn_w_back : Cond.instanceMethod y_w_back ∈ q_tb := q_inT5 38 rfl rfl
theorem hz_w_back : Cond.selects y_w_back.cls y_w_back y_w_back ∈ q_tb := q_inT5 39 rfl rfl
theorem hy_w_back : y_w_back.cls ≠ "java/lang/invoke/MethodHandle" ∧ y_w_back.cls ≠ "java/lang/invoke/VarHandle" ∧ (parseMethodDescriptor y_w_back.desc).map (fun d => d.parameters.length) = some 0 := by decide +kernel
def y_r_back : MethodName := ⟨"WhichSwitchModel", "back", "()I"⟩
theorem hc_r_back : Cond.code y_r_back prog_13_method_97_code 2 (some .int) ∈ q_tb := q_inT7 192 rfl rfl
theorem hi_r_back : Cond.initialized y_r_back.cls ∈ q_tb := q_inT1 19 rfl rfl
theorem hn_r_back : Cond.instanceMethod y_r_back ∈ q_tb := q_inT7 190 rfl rfl
theorem hz_r_back : Cond.selects y_r_back.cls y_r_back y_r_back ∈ q_tb := q_inT7 191 rfl rfl
theorem hy_r_back : y_r_back.cls ≠ "java/lang/invoke/MethodHandle" ∧ y_r_back.cls ≠ "java/lang/invoke/VarHandle" ∧ (parseMethodDescriptor y_r_back.desc).map (fun d => d.parameters.length) = some 0 := by decide +kernel
def y_w_sheet : MethodName := ⟨"WhichSwitch", "sheet", "(III)I"⟩
theorem hc_w_sheet : Cond.code y_w_sheet prog_1_method_87_code 4 (some .int) ∈ q_tb := q_inT5 44 rfl rfl
theorem hi_w_sheet : Cond.initialized y_w_sheet.cls ∈ q_tb := q_inT1 1 rfl rfl
theorem hn_w_sheet : Cond.instanceMethod y_w_sheet ∈ q_tb := q_inT5 42 rfl rfl
theorem hz_w_sheet : Cond.selects y_w_sheet.cls y_w_sheet y_w_sheet ∈ q_tb := q_inT5 43 rfl rfl
theorem hy_w_sheet : y_w_sheet.cls ≠ "java/lang/invoke/MethodHandle" ∧ y_w_sheet.cls ≠ "java/lang/invoke/VarHandle" ∧ (parseMethodDescriptor y_w_sheet.desc).map (fun d => d.parameters.length) = some 3 := by decide +kernel
def y_r_sheet : MethodName := ⟨"WhichSwitchModel", "sheet", "(III)I"⟩
theorem hc_r_sheet : Cond.code y_r_sheet prog_13_method_98_code 5 (some .int) ∈ q_tb := q_inT7 196 rfl rfl
theorem hi_r_sheet : Cond.initialized y_r_sheet.cls ∈ q_tb := q_inT1 19 rfl rfl
theorem hn_r_sheet : Cond.instanceMethod y_r_sheet ∈ q_tb := q_inT7 194 rfl rfl
theorem hz_r_sheet : Cond.selects y_r_sheet.cls y_r_sheet y_r_sheet ∈ q_tb := q_inT7 195 rfl rfl
theorem hy_r_sheet : y_r_sheet.cls ≠ "java/lang/invoke/MethodHandle" ∧ y_r_sheet.cls ≠ "java/lang/invoke/VarHandle" ∧ (parseMethodDescriptor y_r_sheet.desc).map (fun d => d.parameters.length) = some 3 := by decide +kernel
def y_w_cell : MethodName := ⟨"WhichSwitch", "cell", "(III)I"⟩
theorem hc_w_cell : Cond.code y_w_cell prog_1_method_88_code 4 (some .int) ∈ q_tb := q_inT5 52 rfl rfl
theorem hi_w_cell : Cond.initialized y_w_cell.cls ∈ q_tb := q_inT1 1 rfl rfl
theorem hn_w_cell : Cond.instanceMethod y_w_cell ∈ q_tb := q_inT5 50 rfl rfl
theorem hz_w_cell : Cond.selects y_w_cell.cls y_w_cell y_w_cell ∈ q_tb := q_inT5 51 rfl rfl
theorem hy_w_cell : y_w_cell.cls ≠ "java/lang/invoke/MethodHandle" ∧ y_w_cell.cls ≠ "java/lang/invoke/VarHandle" ∧ (parseMethodDescriptor y_w_cell.desc).map (fun d => d.parameters.length) = some 3 := by decide +kernel
def y_r_cell : MethodName := ⟨"WhichSwitchModel", "cell", "(III)I"⟩
theorem hc_r_cell : Cond.code y_r_cell prog_13_method_99_code 4 (some .int) ∈ q_tb := q_inT7 200 rfl rfl
theorem hi_r_cell : Cond.initialized y_r_cell.cls ∈ q_tb := q_inT1 19 rfl rfl
theorem hn_r_cell : Cond.instanceMethod y_r_cell ∈ q_tb := q_inT7 198 rfl rfl
theorem hz_r_cell : Cond.selects y_r_cell.cls y_r_cell y_r_cell ∈ q_tb := q_inT7 199 rfl rfl
theorem hy_r_cell : y_r_cell.cls ≠ "java/lang/invoke/MethodHandle" ∧ y_r_cell.cls ≠ "java/lang/invoke/VarHandle" ∧ (parseMethodDescriptor y_r_cell.desc).map (fun d => d.parameters.length) = some 3 := by decide +kernel
def y_w_copy : MethodName := ⟨"WhichSwitch", "copy", "(IIIII)I"⟩
theorem hc_w_copy : Cond.code y_w_copy prog_1_method_89_code 8 (some .int) ∈ q_tb := q_inT5 60 rfl rfl
theorem hi_w_copy : Cond.initialized y_w_copy.cls ∈ q_tb := q_inT1 1 rfl rfl
theorem hn_w_copy : Cond.instanceMethod y_w_copy ∈ q_tb := q_inT5 58 rfl rfl
theorem hz_w_copy : Cond.selects y_w_copy.cls y_w_copy y_w_copy ∈ q_tb := q_inT5 59 rfl rfl
theorem hy_w_copy : y_w_copy.cls ≠ "java/lang/invoke/MethodHandle" ∧ y_w_copy.cls ≠ "java/lang/invoke/VarHandle" ∧ (parseMethodDescriptor y_w_copy.desc).map (fun d => d.parameters.length) = some 5 := by decide +kernel
def y_r_copy : MethodName := ⟨"WhichSwitchModel", "copy", "(IIIII)I"⟩
theorem hc_r_copy : Cond.code y_r_copy prog_13_method_100_code 10 (some .int) ∈ q_tb := q_inT7 204 rfl rfl
theorem hi_r_copy : Cond.initialized y_r_copy.cls ∈ q_tb := q_inT1 19 rfl rfl
theorem hn_r_copy : Cond.instanceMethod y_r_copy ∈ q_tb := q_inT7 202 rfl rfl
theorem hz_r_copy : Cond.selects y_r_copy.cls y_r_copy y_r_copy ∈ q_tb := q_inT7 203 rfl rfl
theorem hy_r_copy : y_r_copy.cls ≠ "java/lang/invoke/MethodHandle" ∧ y_r_copy.cls ≠ "java/lang/invoke/VarHandle" ∧ (parseMethodDescriptor y_r_copy.desc).map (fun d => d.parameters.length) = some 5 := by decide +kernel
def y_w_lampsBy : MethodName := ⟨"WhichSwitch", "lampsBy", "(IIII)I"⟩
theorem hc_w_lampsBy : Cond.code y_w_lampsBy prog_1_method_90_code 9 (some .int) ∈ q_tb := q_inT5 69 rfl rfl
theorem hi_w_lampsBy : Cond.initialized y_w_lampsBy.cls ∈ q_tb := q_inT1 1 rfl rfl
theorem hn_w_lampsBy : Cond.instanceMethod y_w_lampsBy ∈ q_tb := q_inT5 67 rfl rfl
theorem hz_w_lampsBy : Cond.selects y_w_lampsBy.cls y_w_lampsBy y_w_lampsBy ∈ q_tb := q_inT5 68 rfl rfl
theorem hy_w_lampsBy : y_w_lampsBy.cls ≠ "java/lang/invoke/MethodHandle" ∧ y_w_lampsBy.cls ≠ "java/lang/invoke/VarHandle" ∧ (parseMethodDescriptor y_w_lampsBy.desc).map (fun d => d.parameters.length) = some 4 := by decide +kernel
def y_r_lampsBy : MethodName := ⟨"WhichSwitchModel", "lampsBy", "(IIII)I"⟩
theorem hc_r_lampsBy : Cond.code y_r_lampsBy prog_13_method_101_code 9 (some .int) ∈ q_tb := q_inT7 208 rfl rfl
theorem hi_r_lampsBy : Cond.initialized y_r_lampsBy.cls ∈ q_tb := q_inT1 19 rfl rfl
theorem hn_r_lampsBy : Cond.instanceMethod y_r_lampsBy ∈ q_tb := q_inT7 206 rfl rfl
theorem hz_r_lampsBy : Cond.selects y_r_lampsBy.cls y_r_lampsBy y_r_lampsBy ∈ q_tb := q_inT7 207 rfl rfl
theorem hy_r_lampsBy : y_r_lampsBy.cls ≠ "java/lang/invoke/MethodHandle" ∧ y_r_lampsBy.cls ≠ "java/lang/invoke/VarHandle" ∧ (parseMethodDescriptor y_r_lampsBy.desc).map (fun d => d.parameters.length) = some 4 := by decide +kernel
def y_w_taken : MethodName := ⟨"WhichSwitch", "taken", "(II)I"⟩
theorem hc_w_taken : Cond.code y_w_taken prog_1_method_91_code 4 (some .int) ∈ q_tb := q_inT5 74 rfl rfl
theorem hi_w_taken : Cond.initialized y_w_taken.cls ∈ q_tb := q_inT1 1 rfl rfl
theorem hn_w_taken : Cond.instanceMethod y_w_taken ∈ q_tb := q_inT5 72 rfl rfl
theorem hz_w_taken : Cond.selects y_w_taken.cls y_w_taken y_w_taken ∈ q_tb := q_inT5 73 rfl rfl
theorem hy_w_taken : y_w_taken.cls ≠ "java/lang/invoke/MethodHandle" ∧ y_w_taken.cls ≠ "java/lang/invoke/VarHandle" ∧ (parseMethodDescriptor y_w_taken.desc).map (fun d => d.parameters.length) = some 2 := by decide +kernel
def y_r_taken : MethodName := ⟨"WhichSwitchModel", "taken", "(II)I"⟩
theorem hc_r_taken : Cond.code y_r_taken prog_13_method_103_code 3 (some .int) ∈ q_tb := q_inT7 213 rfl rfl
theorem hi_r_taken : Cond.initialized y_r_taken.cls ∈ q_tb := q_inT1 19 rfl rfl
theorem hn_r_taken : Cond.instanceMethod y_r_taken ∈ q_tb := q_inT7 211 rfl rfl
theorem hz_r_taken : Cond.selects y_r_taken.cls y_r_taken y_r_taken ∈ q_tb := q_inT7 212 rfl rfl
theorem hy_r_taken : y_r_taken.cls ≠ "java/lang/invoke/MethodHandle" ∧ y_r_taken.cls ≠ "java/lang/invoke/VarHandle" ∧ (parseMethodDescriptor y_r_taken.desc).map (fun d => d.parameters.length) = some 2 := by decide +kernel
theorem mw_w_3 : Cond.methodLink "WhichSwitch" 3 Lib.objectInit ∈ q_tb := q_inT1 27 rfl rfl
theorem mo_2 : Cond.instanceMethod Lib.objectInit ∈ q_tb := q_inT1 28 rfl rfl
theorem mo_3 : Cond.code Lib.objectInit ⟨#[0xb1]⟩ 1 none ∈ q_tb := q_inT1 29 rfl rfl
theorem cl_w_9 : Cond.classLink "WhichSwitch" 9 "WhichSwitch$Fuse" ∈ q_tb := q_inT1 30 rfl rfl
theorem fl_w_11 : q_FL "WhichSwitch" 11 "WhichSwitch" (q_T10 0).2.1 (q_T10 0).2.2.1 := Or.inl (q_inT2 224 rfl rfl)
theorem fw_w_11 : Cond.fieldLink "WhichSwitch" 11 "WhichSwitch" (q_T10 0).2.1 (q_T10 0).2.2.1 ∈ q_tb := q_inT2 224 rfl rfl
theorem cl_w_15 : Cond.classLink "WhichSwitch" 15 "WhichSwitch$Lamp" ∈ q_tb := q_inT1 32 rfl rfl
theorem fl_w_17 : q_FL "WhichSwitch" 17 "WhichSwitch" (q_T10 1).2.1 (q_T10 1).2.2.1 := Or.inl (q_inT2 225 rfl rfl)
theorem fw_w_17 : Cond.fieldLink "WhichSwitch" 17 "WhichSwitch" (q_T10 1).2.1 (q_T10 1).2.2.1 ∈ q_tb := q_inT2 225 rfl rfl
theorem cl_w_21 : Cond.classLink "WhichSwitch" 21 "WhichSwitch$Wiring" ∈ q_tb := q_inT1 34 rfl rfl
theorem fl_w_23 : q_FL "WhichSwitch" 23 "WhichSwitch" (q_T10 2).2.1 (q_T10 2).2.2.1 := Or.inl (q_inT2 226 rfl rfl)
theorem fw_w_23 : Cond.fieldLink "WhichSwitch" 23 "WhichSwitch" (q_T10 2).2.1 (q_T10 2).2.2.1 ∈ q_tb := q_inT2 226 rfl rfl
theorem fl_w_27 : q_FL "WhichSwitch" 27 "WhichSwitch" (q_T10 3).2.1 (q_T10 3).2.2.1 := Or.inl (q_inT2 227 rfl rfl)
theorem fw_w_27 : Cond.fieldLink "WhichSwitch" 27 "WhichSwitch" (q_T10 3).2.1 (q_T10 3).2.2.1 ∈ q_tb := q_inT2 227 rfl rfl
theorem cl_w_30 : Cond.classLink "WhichSwitch" 30 "WhichSwitch$Text" ∈ q_tb := q_inT1 36 rfl rfl
theorem fl_w_32 : q_FL "WhichSwitch" 32 "WhichSwitch" (q_T10 4).2.1 (q_T10 4).2.2.1 := Or.inl (q_inT2 228 rfl rfl)
theorem fw_w_32 : Cond.fieldLink "WhichSwitch" 32 "WhichSwitch" (q_T10 4).2.1 (q_T10 4).2.2.1 ∈ q_tb := q_inT2 228 rfl rfl
theorem cl_w_36 : Cond.classLink "WhichSwitch" 36 "WhichSwitch$Sheet" ∈ q_tb := q_inT1 38 rfl rfl
theorem fl_w_38 : q_FL "WhichSwitch" 38 "WhichSwitch" (q_T10 5).2.1 (q_T10 5).2.2.1 := Or.inl (q_inT2 229 rfl rfl)
theorem fw_w_38 : Cond.fieldLink "WhichSwitch" 38 "WhichSwitch" (q_T10 5).2.1 (q_T10 5).2.2.1 ∈ q_tb := q_inT2 229 rfl rfl
theorem cl_w_42 : Cond.classLink "WhichSwitch" 42 "WhichSwitch$Moment" ∈ q_tb := q_inT1 40 rfl rfl
theorem cn_4 : Cond.instantiable "WhichSwitch$Moment" 4 ∈ q_tb := q_inT1 41 rfl rfl
theorem cj_4 : Cond.initialized "WhichSwitch$Moment" ∈ q_tb := q_inT1 2 rfl rfl
theorem ml_w_44 : q_ML "WhichSwitch" 44 y_moment_init := Or.inr ⟨"WhichSwitch", q_inN1 42 rfl rfl⟩
theorem fl_w_45 : q_FL "WhichSwitch" 45 "WhichSwitch" (q_T10 6).2.1 (q_T10 6).2.2.1 := Or.inl (q_inT2 230 rfl rfl)
theorem fw_w_45 : Cond.fieldLink "WhichSwitch" 45 "WhichSwitch" (q_T10 6).2.1 (q_T10 6).2.2.1 ∈ q_tb := q_inT2 230 rfl rfl
theorem fl_w_49 : q_FL "WhichSwitch" 49 "WhichSwitch" (q_T10 7).2.1 (q_T10 7).2.2.1 := Or.inl (q_inT2 231 rfl rfl)
theorem fw_w_49 : Cond.fieldLink "WhichSwitch" 49 "WhichSwitch" (q_T10 7).2.1 (q_T10 7).2.2.1 ∈ q_tb := q_inT2 231 rfl rfl
theorem cl_w_52 : Cond.classLink "WhichSwitch" 52 "WhichSwitch$Reader" ∈ q_tb := q_inT1 92 rfl rfl
theorem cn_5 : Cond.instantiable "WhichSwitch$Reader" 7 ∈ q_tb := q_inT1 93 rfl rfl
theorem cj_5 : Cond.initialized "WhichSwitch$Reader" ∈ q_tb := q_inT1 4 rfl rfl
theorem ml_w_54 : q_ML "WhichSwitch" 54 y_reader_init := Or.inr ⟨"WhichSwitch", q_inN1 94 rfl rfl⟩
theorem fl_w_55 : q_FL "WhichSwitch" 55 "WhichSwitch" (q_T10 8).2.1 (q_T10 8).2.2.1 := Or.inl (q_inT2 232 rfl rfl)
theorem fw_w_55 : Cond.fieldLink "WhichSwitch" 55 "WhichSwitch" (q_T10 8).2.1 (q_T10 8).2.2.1 ∈ q_tb := q_inT2 232 rfl rfl
theorem cl_w_59 : Cond.classLink "WhichSwitch" 59 "WhichSwitch$Machine" ∈ q_tb := q_inT1 143 rfl rfl
theorem cn_3 : Cond.instantiable "WhichSwitch$Machine" 3 ∈ q_tb := q_inT1 144 rfl rfl
theorem cj_3 : Cond.initialized "WhichSwitch$Machine" ∈ q_tb := q_inT1 6 rfl rfl
theorem ml_w_61 : q_ML "WhichSwitch" 61 y_machine_init := Or.inr ⟨"WhichSwitch", q_inN1 145 rfl rfl⟩
theorem fl_w_62 : q_FL "WhichSwitch" 62 "WhichSwitch" (q_T10 9).2.1 (q_T10 9).2.2.1 := Or.inl (q_inT2 233 rfl rfl)
theorem fw_w_62 : Cond.fieldLink "WhichSwitch" 62 "WhichSwitch" (q_T10 9).2.1 (q_T10 9).2.2.1 ∈ q_tb := q_inT2 233 rfl rfl
theorem cl_w_66 : Cond.classLink "WhichSwitch" 66 "WhichSwitch$SumSet" ∈ q_tb := q_inT1 159 rfl rfl
theorem cn_7 : Cond.instantiable "WhichSwitch$SumSet" 1 ∈ q_tb := q_inT1 160 rfl rfl
theorem cj_7 : Cond.initialized "WhichSwitch$SumSet" ∈ q_tb := q_inT1 7 rfl rfl
theorem ml_w_68 : q_ML "WhichSwitch" 68 y_sumset_init := Or.inr ⟨"WhichSwitch", q_inN1 161 rfl rfl⟩
theorem fl_w_69 : q_FL "WhichSwitch" 69 "WhichSwitch" (q_T10 10).2.1 (q_T10 10).2.2.1 := Or.inl (q_inT2 234 rfl rfl)
theorem fw_w_69 : Cond.fieldLink "WhichSwitch" 69 "WhichSwitch" (q_T10 10).2.1 (q_T10 10).2.2.1 ∈ q_tb := q_inT2 234 rfl rfl
theorem ac_int : Cond.arrayClass .int ∈ q_tb := q_inT1 74 rfl rfl
theorem fl_w_73 : q_FL "WhichSwitch" 73 "WhichSwitch" (q_T10 11).2.1 (q_T10 11).2.2.1 := Or.inl (q_inT2 235 rfl rfl)
theorem fw_w_73 : Cond.fieldLink "WhichSwitch" 73 "WhichSwitch" (q_T10 11).2.1 (q_T10 11).2.2.1 ∈ q_tb := q_inT2 235 rfl rfl
theorem fl_w_77 : q_FL "WhichSwitch" 77 "WhichSwitch" (q_T10 12).2.1 (q_T10 12).2.2.1 := Or.inl (q_inT2 236 rfl rfl)
theorem fw_w_77 : Cond.fieldLink "WhichSwitch" 77 "WhichSwitch" (q_T10 12).2.1 (q_T10 12).2.2.1 ∈ q_tb := q_inT2 236 rfl rfl
theorem cn_1 : Cond.instantiable "WhichSwitch$Fuse" 3 ∈ q_tb := q_inT1 170 rfl rfl
theorem cj_1 : Cond.initialized "WhichSwitch$Fuse" ∈ q_tb := q_inT1 8 rfl rfl
theorem ml_w_80 : q_ML "WhichSwitch" 80 y_fuse_init := Or.inr ⟨"WhichSwitch", q_inN1 171 rfl rfl⟩
theorem cn_2 : Cond.instantiable "WhichSwitch$Lamp" 6 ∈ q_tb := q_inT1 185 rfl rfl
theorem cj_2 : Cond.initialized "WhichSwitch$Lamp" ∈ q_tb := q_inT1 9 rfl rfl
theorem ml_w_81 : q_ML "WhichSwitch" 81 y_lamp_init := Or.inr ⟨"WhichSwitch", q_inN1 186 rfl rfl⟩
theorem cn_9 : Cond.instantiable "WhichSwitch$Wiring" 3 ∈ q_tb := q_inT1 215 rfl rfl
theorem cj_9 : Cond.initialized "WhichSwitch$Wiring" ∈ q_tb := q_inT1 10 rfl rfl
theorem ml_w_82 : q_ML "WhichSwitch" 82 y_wiring_init := Or.inr ⟨"WhichSwitch", q_inN1 216 rfl rfl⟩
theorem cn_8 : Cond.instantiable "WhichSwitch$Text" 4 ∈ q_tb := q_inT1 99 rfl rfl
theorem cj_8 : Cond.initialized "WhichSwitch$Text" ∈ q_tb := q_inT1 5 rfl rfl
theorem ml_w_83 : q_ML "WhichSwitch" 83 y_text_init := Or.inr ⟨"WhichSwitch", q_inN1 232 rfl rfl⟩
theorem cn_6 : Cond.instantiable "WhichSwitch$Sheet" 3 ∈ q_tb := q_inT1 233 rfl rfl
theorem cj_6 : Cond.initialized "WhichSwitch$Sheet" ∈ q_tb := q_inT1 11 rfl rfl
theorem ml_w_84 : q_ML "WhichSwitch" 84 y_sheet_init := Or.inr ⟨"WhichSwitch", q_inN1 234 rfl rfl⟩
theorem ml_w_87 : q_ML "WhichSwitch" 87 y_reader_fill := Or.inr ⟨"WhichSwitch", q_inN2 13 rfl rfl⟩
theorem ml_w_91 : q_ML "WhichSwitch" 91 y_reader_findFault := Or.inr ⟨"WhichSwitch", q_inN2 69 rfl rfl⟩
theorem ml_w_95 : q_ML "WhichSwitch" 95 y_reader_empty := Or.inr ⟨"WhichSwitch", q_inN2 213 rfl rfl⟩
theorem fl_w_98 : q_FL "WhichSwitch" 98 "WhichSwitch$Reader" (q_T5 6).2.1 (q_T5 6).2.2.1 := Or.inr ⟨"WhichSwitch", q_inN1 127 rfl rfl⟩
theorem ml_w_102 : q_ML "WhichSwitch" 102 y_text_takeFrom := Or.inr ⟨"WhichSwitch", q_inN2 217 rfl rfl⟩
theorem fl_w_106 : q_FL "WhichSwitch" 106 "WhichSwitch" (q_T10 17).2.1 (q_T10 17).2.2.1 := Or.inl (q_inT3 1 rfl rfl)
theorem mw_moment_3 : Cond.methodLink "WhichSwitch$Moment" 3 Lib.objectInit ∈ q_tb := q_inT1 45 rfl rfl
theorem fl_moment_9 : q_FL "WhichSwitch$Moment" 9 "WhichSwitch$Moment" (q_T4 0).2.1 (q_T4 0).2.2.1 := Or.inl (q_inT1 75 rfl rfl)
theorem fw_moment_9 : Cond.fieldLink "WhichSwitch$Moment" 9 "WhichSwitch$Moment" (q_T4 0).2.1 (q_T4 0).2.2.1 ∈ q_tb := q_inT1 75 rfl rfl
theorem cl_moment_15 : Cond.classLink "WhichSwitch$Moment" 15 "WhichSwitch$Ask" ∈ q_tb := q_inT1 46 rfl rfl
theorem fl_moment_17 : q_FL "WhichSwitch$Moment" 17 "WhichSwitch$Moment" (q_T4 1).2.1 (q_T4 1).2.2.1 := Or.inl (q_inT1 77 rfl rfl)
theorem fw_moment_17 : Cond.fieldLink "WhichSwitch$Moment" 17 "WhichSwitch$Moment" (q_T4 1).2.1 (q_T4 1).2.2.1 ∈ q_tb := q_inT1 77 rfl rfl
theorem cn_0 : Cond.instantiable "WhichSwitch$Ask" 5 ∈ q_tb := q_inT1 48 rfl rfl
theorem cj_0 : Cond.initialized "WhichSwitch$Ask" ∈ q_tb := q_inT1 3 rfl rfl
theorem ml_moment_21 : q_ML "WhichSwitch$Moment" 21 y_ask_init := Or.inr ⟨"WhichSwitch", q_inN1 49 rfl rfl⟩
theorem mw_ask_1 : Cond.methodLink "WhichSwitch$Ask" 1 Lib.objectInit ∈ q_tb := q_inT1 52 rfl rfl
theorem mw_reader_3 : Cond.methodLink "WhichSwitch$Reader" 3 Lib.objectInit ∈ q_tb := q_inT1 97 rfl rfl
theorem fl_reader_9 : q_FL "WhichSwitch$Reader" 9 "WhichSwitch$Reader" (q_T5 0).2.1 (q_T5 0).2.2.1 := Or.inl (q_inT1 119 rfl rfl)
theorem fw_reader_9 : Cond.fieldLink "WhichSwitch$Reader" 9 "WhichSwitch$Reader" (q_T5 0).2.1 (q_T5 0).2.2.1 ∈ q_tb := q_inT1 119 rfl rfl
theorem cl_reader_15 : Cond.classLink "WhichSwitch$Reader" 15 "WhichSwitch$Text" ∈ q_tb := q_inT1 98 rfl rfl
theorem ml_reader_17 : q_ML "WhichSwitch$Reader" 17 y_text_init := Or.inr ⟨"WhichSwitch", q_inN1 100 rfl rfl⟩
theorem fl_reader_18 : q_FL "WhichSwitch$Reader" 18 "WhichSwitch$Reader" (q_T5 6).2.1 (q_T5 6).2.2.1 := Or.inl (q_inT1 126 rfl rfl)
theorem fw_reader_18 : Cond.fieldLink "WhichSwitch$Reader" 18 "WhichSwitch$Reader" (q_T5 6).2.1 (q_T5 6).2.2.1 ∈ q_tb := q_inT1 126 rfl rfl
theorem mw_text_3 : Cond.methodLink "WhichSwitch$Text" 3 Lib.objectInit ∈ q_tb := q_inT1 103 rfl rfl
theorem fl_text_9 : q_FL "WhichSwitch$Text" 9 "WhichSwitch$Text" (q_T8 0).2.1 (q_T8 0).2.2.1 := Or.inl (q_inT1 104 rfl rfl)
theorem fw_text_9 : Cond.fieldLink "WhichSwitch$Text" 9 "WhichSwitch$Text" (q_T8 0).2.1 (q_T8 0).2.2.1 ∈ q_tb := q_inT1 104 rfl rfl
theorem fl_text_15 : q_FL "WhichSwitch$Text" 15 "WhichSwitch$Text" (q_T8 1).2.1 (q_T8 1).2.2.1 := Or.inl (q_inT1 106 rfl rfl)
theorem fw_text_15 : Cond.fieldLink "WhichSwitch$Text" 15 "WhichSwitch$Text" (q_T8 1).2.1 (q_T8 1).2.2.1 ∈ q_tb := q_inT1 106 rfl rfl
theorem mw_machine_3 : Cond.methodLink "WhichSwitch$Machine" 3 Lib.objectInit ∈ q_tb := q_inT1 148 rfl rfl
theorem fl_machine_9 : q_FL "WhichSwitch$Machine" 9 "WhichSwitch$Machine" (q_T3 0).2.1 (q_T3 0).2.2.1 := Or.inl (q_inT1 149 rfl rfl)
theorem fw_machine_9 : Cond.fieldLink "WhichSwitch$Machine" 9 "WhichSwitch$Machine" (q_T3 0).2.1 (q_T3 0).2.2.1 ∈ q_tb := q_inT1 149 rfl rfl
theorem fl_machine_15 : q_FL "WhichSwitch$Machine" 15 "WhichSwitch$Machine" (q_T3 1).2.1 (q_T3 1).2.2.1 := Or.inl (q_inT1 150 rfl rfl)
theorem fw_machine_15 : Cond.fieldLink "WhichSwitch$Machine" 15 "WhichSwitch$Machine" (q_T3 1).2.1 (q_T3 1).2.2.1 ∈ q_tb := q_inT1 150 rfl rfl
theorem mw_sumset_1 : Cond.methodLink "WhichSwitch$SumSet" 1 Lib.objectInit ∈ q_tb := q_inT1 164 rfl rfl
theorem ac_long : Cond.arrayClass .long ∈ q_tb := q_inT1 169 rfl rfl
theorem fl_sumset_9 : q_FL "WhichSwitch$SumSet" 9 "WhichSwitch$SumSet" (q_T7 0).2.1 (q_T7 0).2.2.1 := Or.inl (q_inT1 165 rfl rfl)
theorem fw_sumset_9 : Cond.fieldLink "WhichSwitch$SumSet" 9 "WhichSwitch$SumSet" (q_T7 0).2.1 (q_T7 0).2.2.1 ∈ q_tb := q_inT1 165 rfl rfl
theorem mw_fuse_1 : Cond.methodLink "WhichSwitch$Fuse" 1 Lib.objectInit ∈ q_tb := q_inT1 174 rfl rfl
theorem mw_lamp_3 : Cond.methodLink "WhichSwitch$Lamp" 3 Lib.objectInit ∈ q_tb := q_inT1 189 rfl rfl
theorem mw_wiring_3 : Cond.methodLink "WhichSwitch$Wiring" 3 Lib.objectInit ∈ q_tb := q_inT1 219 rfl rfl
theorem fl_wiring_9 : q_FL "WhichSwitch$Wiring" 9 "WhichSwitch$Wiring" (q_T9 0).2.1 (q_T9 0).2.2.1 := Or.inl (q_inT1 220 rfl rfl)
theorem fw_wiring_9 : Cond.fieldLink "WhichSwitch$Wiring" 9 "WhichSwitch$Wiring" (q_T9 0).2.1 (q_T9 0).2.2.1 ∈ q_tb := q_inT1 220 rfl rfl
theorem fl_wiring_15 : q_FL "WhichSwitch$Wiring" 15 "WhichSwitch$Wiring" (q_T9 1).2.1 (q_T9 1).2.2.1 := Or.inl (q_inT1 222 rfl rfl)
theorem fw_wiring_15 : Cond.fieldLink "WhichSwitch$Wiring" 15 "WhichSwitch$Wiring" (q_T9 1).2.1 (q_T9 1).2.2.1 ∈ q_tb := q_inT1 222 rfl rfl
theorem mw_sheet_3 : Cond.methodLink "WhichSwitch$Sheet" 3 Lib.objectInit ∈ q_tb := q_inT1 237 rfl rfl
theorem fl_sheet_9 : q_FL "WhichSwitch$Sheet" 9 "WhichSwitch$Sheet" (q_T6 0).2.1 (q_T6 0).2.2.1 := Or.inl (q_inT1 238 rfl rfl)
theorem fw_sheet_9 : Cond.fieldLink "WhichSwitch$Sheet" 9 "WhichSwitch$Sheet" (q_T6 0).2.1 (q_T6 0).2.2.1 ∈ q_tb := q_inT1 238 rfl rfl
theorem fl_sheet_15 : q_FL "WhichSwitch$Sheet" 15 "WhichSwitch$Sheet" (q_T6 1).2.1 (q_T6 1).2.2.1 := Or.inl (q_inT2 1 rfl rfl)
theorem ml_reader_26 : q_ML "WhichSwitch$Reader" 26 y_js_length := Or.inl (q_inT2 17 rfl rfl)
theorem ml_reader_32 : q_ML "WhichSwitch$Reader" 32 y_js_charAt := Or.inl (q_inT2 27 rfl rfl)
theorem ml_reader_36 : q_ML "WhichSwitch$Reader" 36 y_reader_append := Or.inl (q_inT2 65 rfl rfl)
theorem gw_js_9 : Cond.fieldLink "java/lang/String" 9 "java/lang/String" "value" "[B" ∈ q_tb := q_inT7 218 rfl rfl
theorem ml_js_335 : q_ML "java/lang/String" 335 y_js_coder := Or.inl (q_inT2 21 rfl rfl)
theorem gw_js_38 : Cond.fieldLink "java/lang/String" 38 "java/lang/String" "COMPACT_STRINGS" "Z" ∈ q_tb := q_inT2 25 rfl rfl
theorem gw_js_15 : Cond.fieldLink "java/lang/String" 15 "java/lang/String" "coder" "B" ∈ q_tb := q_inT7 219 rfl rfl
theorem ml_js_492 : q_ML "java/lang/String" 492 y_js_isLatin1 := Or.inl (q_inT2 31 rfl rfl)
theorem ml_js_495 : q_ML "java/lang/String" 495 y_jt_charAt := Or.inl (q_inT2 35 rfl rfl)
theorem ml_jt_9 : q_ML "java/lang/StringLatin1" 9 y_js_checkIndex := Or.inl (q_inT2 38 rfl rfl)
theorem gw_js_1053 : Cond.fieldLink "java/lang/String" 1053 "jdk/internal/util/Preconditions" "SIOOBE_FORMATTER" "Ljava/util/function/BiFunction;" ∈ q_tb := q_inT2 41 rfl rfl
theorem ml_js_1059 : q_ML "java/lang/String" 1059 y_jp_checkIndex := Or.inl (q_inT2 43 rfl rfl)
theorem fl_reader_22 : q_FL "WhichSwitch$Reader" 22 "WhichSwitch$Reader" (q_T5 1).2.1 (q_T5 1).2.2.1 := Or.inl (q_inT1 120 rfl rfl)
theorem ml_reader_40 : q_ML "WhichSwitch$Reader" 40 y_text_begin := Or.inr ⟨"WhichSwitch", q_inN2 73 rfl rfl⟩
theorem fl_reader_43 : q_FL "WhichSwitch$Reader" 43 "WhichSwitch$Reader" (q_T5 2).2.1 (q_T5 2).2.2.1 := Or.inl (q_inT1 122 rfl rfl)
theorem ml_reader_46 : q_ML "WhichSwitch$Reader" 46 y_reader_advance := Or.inl (q_inT2 77 rfl rfl)
theorem ml_reader_49 : q_ML "WhichSwitch$Reader" 49 y_reader_readPart := Or.inl (q_inT2 165 rfl rfl)
theorem fl_reader_53 : q_FL "WhichSwitch$Reader" 53 "WhichSwitch$Reader" (q_T5 3).2.1 (q_T5 3).2.2.1 := Or.inl (q_inT1 123 rfl rfl)
theorem fl_reader_56 : q_FL "WhichSwitch$Reader" 56 "WhichSwitch$Reader" (q_T5 4).2.1 (q_T5 4).2.2.1 := Or.inl (q_inT1 124 rfl rfl)
theorem fl_text_18 : q_FL "WhichSwitch$Text" 18 "WhichSwitch$Text" (q_T8 2).2.1 (q_T8 2).2.2.1 := Or.inl (q_inT1 108 rfl rfl)
theorem fl_text_22 : q_FL "WhichSwitch$Text" 22 "WhichSwitch$Text" (q_T8 3).2.1 (q_T8 3).2.2.1 := Or.inl (q_inT1 109 rfl rfl)
theorem ml_reader_99 : q_ML "WhichSwitch$Reader" 99 y_reader_isLetter := Or.inl (q_inT2 81 rfl rfl)
theorem ml_reader_102 : q_ML "WhichSwitch$Reader" 102 y_reader_advanceWord := Or.inl (q_inT2 88 rfl rfl)
theorem ml_reader_105 : q_ML "WhichSwitch$Reader" 105 y_reader_isDigit := Or.inl (q_inT2 97 rfl rfl)
theorem ml_reader_108 : q_ML "WhichSwitch$Reader" 108 y_reader_advanceNumber := Or.inl (q_inT2 101 rfl rfl)
theorem ml_reader_113 : q_ML "WhichSwitch$Reader" 113 y_js_indexOf0 := Or.inl (q_inT2 106 rfl rfl)
theorem ml_reader_86 : q_ML "WhichSwitch$Reader" 86 y_w_within := Or.inr ⟨"WhichSwitch", q_inN2 85 rfl rfl⟩
theorem ml_reader_119 : q_ML "WhichSwitch$Reader" 119 y_reader_isWord := Or.inl (q_inT2 93 rfl rfl)
theorem fl_reader_90 : q_FL "WhichSwitch$Reader" 90 "WhichSwitch$Reader" (q_T5 5).2.1 (q_T5 5).2.2.1 := Or.inl (q_inT1 125 rfl rfl)
theorem ml_js_633 : q_ML "java/lang/String" 633 y_js_indexOf1 := Or.inl (q_inT2 110 rfl rfl)
theorem ml_js_505 : q_ML "java/lang/String" 505 y_js_length := Or.inl (q_inT2 114 rfl rfl)
theorem ml_js_637 : q_ML "java/lang/String" 637 y_jt_indexOf := Or.inl (q_inT2 115 rfl rfl)
theorem ml_jt_88 : q_ML "java/lang/StringLatin1" 88 y_jt_canEncode := Or.inl (q_inT2 118 rfl rfl)
theorem mw_jt_92 : Cond.methodLink "java/lang/StringLatin1" 92 Lib.Math.max.name ∈ q_tb := q_inT2 121 rfl rfl
theorem mm_max_2 : Cond.static Lib.Math.max.name ∈ q_tb := q_inT2 122 rfl rfl
theorem mm_3 : Cond.initialized "java/lang/Math" ∈ q_tb := q_inT1 16 rfl rfl
theorem mm_max_4 : Cond.code Lib.Math.max.name Lib.Math.max.code 2 (some .int) ∈ q_tb := q_inT2 123 rfl rfl
theorem mw_jt_38 : Cond.methodLink "java/lang/StringLatin1" 38 Lib.Math.min.name ∈ q_tb := q_inT2 124 rfl rfl
theorem mm_min_2 : Cond.static Lib.Math.min.name ∈ q_tb := q_inT2 125 rfl rfl
theorem mm_min_4 : Cond.code Lib.Math.min.name Lib.Math.min.code 2 (some .int) ∈ q_tb := q_inT2 126 rfl rfl
theorem ml_jt_95 : q_ML "java/lang/StringLatin1" 95 y_jt_indexOfChar := Or.inl (q_inT2 127 rfl rfl)
theorem ml_reader_59 : q_ML "WhichSwitch$Reader" 59 y_reader_readOrs := Or.inl (q_inT2 169 rfl rfl)
theorem ml_reader_62 : q_ML "WhichSwitch$Reader" 62 y_text_endPart := Or.inr ⟨"WhichSwitch", q_inN2 209 rfl rfl⟩
theorem ml_reader_65 : q_ML "WhichSwitch$Reader" 65 y_reader_readAnds := Or.inl (q_inT2 173 rfl rfl)
theorem ml_reader_68 : q_ML "WhichSwitch$Reader" 68 y_text_add := Or.inr ⟨"WhichSwitch", q_inN2 197 rfl rfl⟩
theorem ml_reader_71 : q_ML "WhichSwitch$Reader" 71 y_reader_readNot := Or.inl (q_inT2 177 rfl rfl)
theorem ml_reader_74 : q_ML "WhichSwitch$Reader" 74 y_reader_readComparison := Or.inl (q_inT2 181 rfl rfl)
theorem ml_reader_77 : q_ML "WhichSwitch$Reader" 77 y_reader_readSum := Or.inl (q_inT2 185 rfl rfl)
theorem ml_reader_80 : q_ML "WhichSwitch$Reader" 80 y_reader_readTerm := Or.inl (q_inT2 189 rfl rfl)
theorem ml_reader_83 : q_ML "WhichSwitch$Reader" 83 y_reader_readOne := Or.inl (q_inT2 193 rfl rfl)
theorem ml_reader_93 : q_ML "WhichSwitch$Reader" 93 y_reader_readNegated := Or.inl (q_inT2 201 rfl rfl)
theorem ml_reader_96 : q_ML "WhichSwitch$Reader" 96 y_reader_readBracketed := Or.inl (q_inT2 205 rfl rfl)
theorem mw_text_25 : Cond.methodLink "WhichSwitch$Text" 25 arraycopyName ∈ q_tb := q_inT2 221 rfl rfl
theorem mc_2 : Cond.native arraycopyName ∈ q_tb := q_inT2 223 rfl rfl
theorem mc_3 : Cond.static arraycopyName ∈ q_tb := q_inT2 222 rfl rfl
theorem mc_4 : Cond.initialized "java/lang/System" ∈ q_tb := q_inT1 18 rfl rfl
theorem ml_w_110 : q_ML "WhichSwitch" 110 y_w_within := Or.inl (q_inT3 47 rfl rfl)
theorem fl_w_114 : q_FL "WhichSwitch" 114 "WhichSwitch" (q_T10 13).2.1 (q_T10 13).2.2.1 := Or.inl (q_inT2 237 rfl rfl)
theorem fl_w_117 : q_FL "WhichSwitch" 117 "WhichSwitch$Fuse" (q_T1 0).2.1 (q_T1 0).2.2.1 := Or.inr ⟨"WhichSwitch", q_inN1 175 rfl rfl⟩
theorem fl_w_120 : q_FL "WhichSwitch" 120 "WhichSwitch$Fuse" (q_T1 1).2.1 (q_T1 1).2.2.1 := Or.inr ⟨"WhichSwitch", q_inN1 176 rfl rfl⟩
theorem ml_w_123 : q_ML "WhichSwitch" 123 y_w_mostOf := Or.inl (q_inT3 52 rfl rfl)
theorem fl_w_127 : q_FL "WhichSwitch" 127 "WhichSwitch$Moment" (q_T4 0).2.1 (q_T4 0).2.2.1 := Or.inr ⟨"WhichSwitch", q_inN1 76 rfl rfl⟩
theorem ml_w_130 : q_ML "WhichSwitch" 130 y_w_bitsBelow := Or.inl (q_inT3 56 rfl rfl)
theorem fl_w_133 : q_FL "WhichSwitch" 133 "WhichSwitch" (q_T10 14).2.1 (q_T10 14).2.2.1 := Or.inl (q_inT2 238 rfl rfl)
theorem fl_w_136 : q_FL "WhichSwitch" 136 "WhichSwitch" (q_T10 15).2.1 (q_T10 15).2.2.1 := Or.inl (q_inT2 239 rfl rfl)
theorem fl_w_139 : q_FL "WhichSwitch" 139 "WhichSwitch$Moment" (q_T4 2).2.1 (q_T4 2).2.2.1 := Or.inr ⟨"WhichSwitch", q_inN1 80 rfl rfl⟩
theorem fl_w_142 : q_FL "WhichSwitch" 142 "WhichSwitch" (q_T10 16).2.1 (q_T10 16).2.2.1 := Or.inl (q_inT3 0 rfl rfl)
theorem fl_w_145 : q_FL "WhichSwitch" 145 "WhichSwitch$Moment" (q_T4 3).2.1 (q_T4 3).2.2.1 := Or.inr ⟨"WhichSwitch", q_inN1 82 rfl rfl⟩
theorem fl_w_148 : q_FL "WhichSwitch" 148 "WhichSwitch$Reader" (q_T5 1).2.1 (q_T5 1).2.2.1 := Or.inr ⟨"WhichSwitch", q_inN1 121 rfl rfl⟩
theorem ml_w_151 : q_ML "WhichSwitch" 151 y_w_isWhere := Or.inl (q_inT3 67 rfl rfl)
theorem ml_w_155 : q_ML "WhichSwitch" 155 y_lamp_become := Or.inr ⟨"WhichSwitch", q_inN3 70 rfl rfl⟩
theorem fl_w_159 : q_FL "WhichSwitch" 159 "WhichSwitch$Fuse" (q_T1 2).2.1 (q_T1 2).2.2.1 := Or.inr ⟨"WhichSwitch", q_inN1 177 rfl rfl⟩
theorem fl_lamp_9 : q_FL "WhichSwitch$Lamp" 9 "WhichSwitch$Lamp" (q_T2 0).2.1 (q_T2 0).2.2.1 := Or.inl (q_inT1 190 rfl rfl)
theorem fl_lamp_15 : q_FL "WhichSwitch$Lamp" 15 "WhichSwitch$Lamp" (q_T2 1).2.1 (q_T2 1).2.2.1 := Or.inl (q_inT1 192 rfl rfl)
theorem fl_lamp_18 : q_FL "WhichSwitch$Lamp" 18 "WhichSwitch$Lamp" (q_T2 2).2.1 (q_T2 2).2.2.1 := Or.inl (q_inT1 194 rfl rfl)
theorem fl_lamp_21 : q_FL "WhichSwitch$Lamp" 21 "WhichSwitch$Lamp" (q_T2 3).2.1 (q_T2 3).2.2.1 := Or.inl (q_inT1 196 rfl rfl)
theorem fl_lamp_24 : q_FL "WhichSwitch$Lamp" 24 "WhichSwitch$Lamp" (q_T2 4).2.1 (q_T2 4).2.2.1 := Or.inl (q_inT1 198 rfl rfl)
theorem fl_lamp_27 : q_FL "WhichSwitch$Lamp" 27 "WhichSwitch$Lamp" (q_T2 5).2.1 (q_T2 5).2.2.1 := Or.inl (q_inT1 200 rfl rfl)
theorem ml_w_162 : q_ML "WhichSwitch" 162 y_w_isLamp := Or.inl (q_inT3 78 rfl rfl)
theorem fl_w_165 : q_FL "WhichSwitch" 165 "WhichSwitch$Lamp" (q_T2 0).2.1 (q_T2 0).2.2.1 := Or.inr ⟨"WhichSwitch", q_inN1 191 rfl rfl⟩
theorem fl_w_168 : q_FL "WhichSwitch" 168 "WhichSwitch$Lamp" (q_T2 1).2.1 (q_T2 1).2.2.1 := Or.inr ⟨"WhichSwitch", q_inN1 193 rfl rfl⟩
theorem fl_w_171 : q_FL "WhichSwitch" 171 "WhichSwitch$Lamp" (q_T2 2).2.1 (q_T2 2).2.2.1 := Or.inr ⟨"WhichSwitch", q_inN1 195 rfl rfl⟩
theorem fl_w_174 : q_FL "WhichSwitch" 174 "WhichSwitch$Lamp" (q_T2 3).2.1 (q_T2 3).2.2.1 := Or.inr ⟨"WhichSwitch", q_inN1 197 rfl rfl⟩
theorem fl_w_177 : q_FL "WhichSwitch" 177 "WhichSwitch$Lamp" (q_T2 4).2.1 (q_T2 4).2.2.1 := Or.inr ⟨"WhichSwitch", q_inN1 199 rfl rfl⟩
theorem fl_w_180 : q_FL "WhichSwitch" 180 "WhichSwitch$Lamp" (q_T2 5).2.1 (q_T2 5).2.2.1 := Or.inr ⟨"WhichSwitch", q_inN1 201 rfl rfl⟩
theorem ml_w_183 : q_ML "WhichSwitch" 183 y_reader_append := Or.inr ⟨"WhichSwitch", q_inN3 86 rfl rfl⟩
theorem ml_w_199 : q_ML "WhichSwitch" 199 y_w_wiringRefusal := Or.inl (q_inT3 99 rfl rfl)
theorem ml_w_202 : q_ML "WhichSwitch" 202 y_wiring_become := Or.inr ⟨"WhichSwitch", q_inN3 115 rfl rfl⟩
theorem ml_w_205 : q_ML "WhichSwitch" 205 y_w_isSheet := Or.inl (q_inT3 103 rfl rfl)
theorem ml_w_208 : q_ML "WhichSwitch" 208 y_sheet_isMissing := Or.inr ⟨"WhichSwitch", q_inN3 106 rfl rfl⟩
theorem fl_w_212 : q_FL "WhichSwitch" 212 "WhichSwitch$Sheet" (q_T6 2).2.1 (q_T6 2).2.2.1 := Or.inr ⟨"WhichSwitch", q_inN2 4 rfl rfl⟩
theorem ml_w_213 : q_ML "WhichSwitch" 213 y_sheet_isWithin := Or.inr ⟨"WhichSwitch", q_inN3 110 rfl rfl⟩
theorem fl_sheet_19 : q_FL "WhichSwitch$Sheet" 19 "WhichSwitch$Sheet" (q_T6 2).2.1 (q_T6 2).2.2.1 := Or.inl (q_inT2 3 rfl rfl)
theorem ml_sheet_22 : q_ML "WhichSwitch$Sheet" 22 y_w_within := Or.inr ⟨"WhichSwitch", q_inN3 114 rfl rfl⟩
theorem fl_wiring_18 : q_FL "WhichSwitch$Wiring" 18 "WhichSwitch$Sheet" (q_T6 0).2.1 (q_T6 0).2.2.1 := Or.inr ⟨"WhichSwitch", q_inN1 239 rfl rfl⟩
theorem ml_wiring_23 : q_ML "WhichSwitch$Wiring" 23 y_w_within := Or.inr ⟨"WhichSwitch", q_inN3 119 rfl rfl⟩
theorem ml_w_217 : q_ML "WhichSwitch" 217 y_w_isHouse := Or.inl (q_inT3 124 rfl rfl)
theorem fl_w_220 : q_FL "WhichSwitch" 220 "WhichSwitch$Wiring" (q_T9 0).2.1 (q_T9 0).2.2.1 := Or.inr ⟨"WhichSwitch", q_inN1 221 rfl rfl⟩
theorem ml_w_223 : q_ML "WhichSwitch" 223 y_w_litNow := Or.inl (q_inT3 132 rfl rfl)
theorem ml_w_233 : q_ML "WhichSwitch" 233 y_w_fedLamps := Or.inl (q_inT3 136 rfl rfl)
theorem ml_w_236 : q_ML "WhichSwitch" 236 y_w_lampsOn := Or.inl (q_inT3 143 rfl rfl)
theorem ml_w_242 : q_ML "WhichSwitch" 242 y_w_has := Or.inl (q_inT3 140 rfl rfl)
theorem fl_w_245 : q_FL "WhichSwitch" 245 "WhichSwitch$Wiring" (q_T9 1).2.1 (q_T9 1).2.2.1 := Or.inr ⟨"WhichSwitch", q_inN1 223 rfl rfl⟩
theorem ml_w_239 : q_ML "WhichSwitch" 239 y_lamp_isOn := Or.inr ⟨"WhichSwitch", q_inN3 147 rfl rfl⟩
theorem ml_lamp_30 : q_ML "WhichSwitch$Lamp" 30 y_w_has := Or.inr ⟨"WhichSwitch", q_inN3 151 rfl rfl⟩
theorem ml_lamp_34 : q_ML "WhichSwitch$Lamp" 34 y_w_within := Or.inr ⟨"WhichSwitch", q_inN3 152 rfl rfl⟩
theorem ml_w_226 : q_ML "WhichSwitch" 226 y_w_brightness := Or.inl (q_inT3 157 rfl rfl)
theorem ml_w_253 : q_ML "WhichSwitch" 253 y_w_rowOf := Or.inl (q_inT3 161 rfl rfl)
theorem mw_w_248 : Cond.methodLink "WhichSwitch" 248 Lib.Math.max.name ∈ q_tb := q_inT3 165 rfl rfl
theorem ml_w_256 : q_ML "WhichSwitch" 256 y_w_lawSaysOfLamp := Or.inl (q_inT3 166 rfl rfl)
theorem ml_w_187 : q_ML "WhichSwitch" 187 y_machine_tellNames := Or.inr ⟨"WhichSwitch", q_inN3 170 rfl rfl⟩
theorem ml_w_191 : q_ML "WhichSwitch" 191 y_w_textInForce := Or.inl (q_inT3 174 rfl rfl)
theorem ml_w_195 : q_ML "WhichSwitch" 195 y_machine_sayBy := Or.inr ⟨"WhichSwitch", q_inN3 178 rfl rfl⟩
theorem ml_machine_18 : q_ML "WhichSwitch$Machine" 18 y_w_within := Or.inr ⟨"WhichSwitch", q_inN3 182 rfl rfl⟩
theorem fl_machine_22 : q_FL "WhichSwitch$Machine" 22 "WhichSwitch$Text" (q_T8 1).2.1 (q_T8 1).2.2.1 := Or.inr ⟨"WhichSwitch", q_inN1 107 rfl rfl⟩
theorem fl_machine_27 : q_FL "WhichSwitch$Machine" 27 "WhichSwitch$Machine" (q_T3 2).2.1 (q_T3 2).2.2.1 := Or.inl (q_inT1 151 rfl rfl)
theorem fl_machine_31 : q_FL "WhichSwitch$Machine" 31 "WhichSwitch$Text" (q_T8 0).2.1 (q_T8 0).2.2.1 := Or.inr ⟨"WhichSwitch", q_inN1 105 rfl rfl⟩
theorem ml_machine_34 : q_ML "WhichSwitch$Machine" 34 y_machine_take := Or.inl (q_inT3 183 rfl rfl)
theorem ml_machine_38 : q_ML "WhichSwitch$Machine" 38 y_machine_pop := Or.inl (q_inT3 191 rfl rfl)
theorem mw_machine_42 : Cond.methodLink "WhichSwitch$Machine" 42 Lib.Math.min.name ∈ q_tb := q_inT3 198 rfl rfl
theorem mw_machine_48 : Cond.methodLink "WhichSwitch$Machine" 48 Lib.Math.max.name ∈ q_tb := q_inT3 199 rfl rfl
theorem ml_machine_53 : q_ML "WhichSwitch$Machine" 53 y_machine_push := Or.inl (q_inT3 187 rfl rfl)
theorem ml_machine_56 : q_ML "WhichSwitch$Machine" 56 y_machine_joined := Or.inl (q_inT3 195 rfl rfl)
theorem ml_w_230 : q_ML "WhichSwitch" 230 y_w_isRoom := Or.inl (q_inT3 204 rfl rfl)
theorem ml_w_260 : q_ML "WhichSwitch" 260 y_w_isRooms := Or.inl (q_inT3 215 rfl rfl)
theorem ml_w_263 : q_ML "WhichSwitch" 263 y_w_lampsIn := Or.inl (q_inT3 221 rfl rfl)
theorem ml_w_266 : q_ML "WhichSwitch" 266 y_w_isSubset := Or.inl (q_inT3 218 rfl rfl)
theorem fl_w_269 : q_FL "WhichSwitch" 269 "WhichSwitch$Moment" (q_T4 1).2.1 (q_T4 1).2.2.1 := Or.inr ⟨"WhichSwitch", q_inN1 78 rfl rfl⟩
theorem fl_w_273 : q_FL "WhichSwitch" 273 "WhichSwitch$Ask" (q_T0 0).2.1 (q_T0 0).2.2.1 := Or.inr ⟨"WhichSwitch", q_inN1 54 rfl rfl⟩
theorem fl_w_278 : q_FL "WhichSwitch" 278 "WhichSwitch$Ask" (q_T0 1).2.1 (q_T0 1).2.2.1 := Or.inr ⟨"WhichSwitch", q_inN1 56 rfl rfl⟩
theorem fl_w_281 : q_FL "WhichSwitch" 281 "WhichSwitch$Ask" (q_T0 2).2.1 (q_T0 2).2.2.1 := Or.inr ⟨"WhichSwitch", q_inN1 58 rfl rfl⟩
theorem fl_w_284 : q_FL "WhichSwitch" 284 "WhichSwitch$Ask" (q_T0 3).2.1 (q_T0 3).2.2.1 := Or.inr ⟨"WhichSwitch", q_inN1 60 rfl rfl⟩
theorem fl_w_287 : q_FL "WhichSwitch" 287 "WhichSwitch$Ask" (q_T0 4).2.1 (q_T0 4).2.2.1 := Or.inr ⟨"WhichSwitch", q_inN1 62 rfl rfl⟩
theorem ml_w_290 : q_ML "WhichSwitch" 290 y_w_amissLamps := Or.inl (q_inT3 233 rfl rfl)
theorem ml_w_294 : q_ML "WhichSwitch" 294 y_w_missesOf := Or.inl (q_inT4 1 rfl rfl)
theorem ml_w_316 : q_ML "WhichSwitch" 316 y_ji_bitCount := Or.inl (q_inT4 5 rfl rfl)
theorem kc_ji_265 : Cond.constant "java/lang/Integer" 265 (1431655765) ∈ q_tb := q_inT4 8 rfl rfl
theorem kc_ji_266 : Cond.constant "java/lang/Integer" 266 (858993459) ∈ q_tb := q_inT4 9 rfl rfl
theorem kc_ji_267 : Cond.constant "java/lang/Integer" 267 (252645135) ∈ q_tb := q_inT4 10 rfl rfl
theorem ml_w_297 : q_ML "WhichSwitch" 297 y_w_letHouses := Or.inl (q_inT4 15 rfl rfl)
theorem ml_w_327 : q_ML "WhichSwitch" 327 y_w_housesShowing := Or.inl (q_inT4 19 rfl rfl)
theorem ml_w_300 : q_ML "WhichSwitch" 300 y_w_isFuses := Or.inl (q_inT4 35 rfl rfl)
theorem ml_w_303 : q_ML "WhichSwitch" 303 y_w_fillShows := Or.inl (q_inT4 39 rfl rfl)
theorem ml_w_307 : q_ML "WhichSwitch" 307 y_w_kindCount := Or.inl (q_inT4 43 rfl rfl)
theorem ml_w_310 : q_ML "WhichSwitch" 310 y_w_greatestKind := Or.inl (q_inT4 51 rfl rfl)
theorem ml_w_324 : q_ML "WhichSwitch" 324 y_w_kindOf := Or.inl (q_inT4 47 rfl rfl)
theorem ml_w_313 : q_ML "WhichSwitch" 313 y_w_nextSet := Or.inl (q_inT4 59 rfl rfl)
theorem ml_w_321 : q_ML "WhichSwitch" 321 y_w_leftBehind := Or.inl (q_inT4 67 rfl rfl)
theorem ml_w_331 : q_ML "WhichSwitch" 331 y_w_agreedFuse := Or.inl (q_inT4 83 rfl rfl)
theorem ml_w_334 : q_ML "WhichSwitch" 334 y_w_housesFeeding := Or.inl (q_inT4 95 rfl rfl)
theorem ml_w_337 : q_ML "WhichSwitch" 337 y_sumset_begin := Or.inr ⟨"WhichSwitch", q_inN4 111 rfl rfl⟩
theorem ml_w_340 : q_ML "WhichSwitch" 340 y_sumset_join := Or.inr ⟨"WhichSwitch", q_inN4 115 rfl rfl⟩
theorem ml_w_343 : q_ML "WhichSwitch" 343 y_sumset_size := Or.inr ⟨"WhichSwitch", q_inN4 123 rfl rfl⟩
theorem ml_sumset_13 : q_ML "WhichSwitch$SumSet" 13 y_sumset_raised := Or.inl (q_inT4 119 rfl rfl)
theorem ml_sumset_17 : q_ML "WhichSwitch$SumSet" 17 y_jl_bitCount := Or.inl (q_inT4 127 rfl rfl)
theorem kc_jl_314 : Cond.constantLong "java/lang/Long" 314 (6148914691236517205) ∈ q_tb := q_inT4 130 rfl rfl
theorem kc_jl_316 : Cond.constantLong "java/lang/Long" 316 (3689348814741910323) ∈ q_tb := q_inT4 131 rfl rfl
theorem kc_jl_318 : Cond.constantLong "java/lang/Long" 318 (1085102592571150095) ∈ q_tb := q_inT4 132 rfl rfl
theorem ml_w_345 : q_ML "WhichSwitch" 345 y_w_powerOf := Or.inl (q_inT4 137 rfl rfl)
theorem ml_w_348 : q_ML "WhichSwitch" 348 y_w_gatherOthers := Or.inl (q_inT4 145 rfl rfl)
theorem ml_w_351 : q_ML "WhichSwitch" 351 y_sumset_meets := Or.inr ⟨"WhichSwitch", q_inN4 149 rfl rfl⟩
theorem fl_w_354 : q_FL "WhichSwitch" 354 "WhichSwitch$Wiring" (q_T9 2).2.1 (q_T9 2).2.2.1 := Or.inr ⟨"WhichSwitch", q_inN1 224 rfl rfl⟩
theorem ml_w_357 : q_ML "WhichSwitch" 357 y_w_isLabel := Or.inl (q_inT4 161 rfl rfl)
theorem ml_w_360 : q_ML "WhichSwitch" 360 y_w_agreements := Or.inl (q_inT4 165 rfl rfl)
theorem ml_w_363 : q_ML "WhichSwitch" 363 y_w_agreementsOver := Or.inl (q_inT4 173 rfl rfl)
theorem kc_w_366 : Cond.constantLong "WhichSwitch" 366 (-4611686018427387904) ∈ q_tb := q_inT4 181 rfl rfl
theorem ml_w_368 : q_ML "WhichSwitch" 368 y_w_commonDivisor := Or.inl (q_inT4 182 rfl rfl)
theorem ml_w_371 : q_ML "WhichSwitch" 371 y_w_fillTones := Or.inl (q_inT4 189 rfl rfl)
theorem ml_w_374 : q_ML "WhichSwitch" 374 y_w_wallAmiss := Or.inl (q_inT4 193 rfl rfl)
theorem fl_w_378 : q_FL "WhichSwitch" 378 "WhichSwitch$Sheet" (q_T6 0).2.1 (q_T6 0).2.2.1 := Or.inr ⟨"WhichSwitch", q_inN2 0 rfl rfl⟩
theorem mw_w_381 : Cond.methodLink "WhichSwitch" 381 Lib.Math.abs.name ∈ q_tb := q_inT4 197 rfl rfl
theorem mm_abs_2 : Cond.static Lib.Math.abs.name ∈ q_tb := q_inT4 198 rfl rfl
theorem mm_abs_4 : Cond.code Lib.Math.abs.name Lib.Math.abs.code 1 (some .int) ∈ q_tb := q_inT4 199 rfl rfl
theorem ml_w_384 : q_ML "WhichSwitch" 384 y_w_isFuse := Or.inl (q_inT4 208 rfl rfl)
theorem ml_w_387 : q_ML "WhichSwitch" 387 y_w_forgetSaid := Or.inl (q_inT4 212 rfl rfl)
theorem ml_w_390 : q_ML "WhichSwitch" 390 y_w_loadOf := Or.inl (q_inT4 216 rfl rfl)
theorem ml_w_415 : q_ML "WhichSwitch" 415 y_w_lampLoad := Or.inl (q_inT4 220 rfl rfl)
theorem ml_w_393 : q_ML "WhichSwitch" 393 y_w_usedSwitches := Or.inl (q_inT4 232 rfl rfl)
theorem kc_w_396 : Cond.constant "WhichSwitch" 396 (99999) ∈ q_tb := q_inT5 4 rfl rfl
theorem ml_w_397 : q_ML "WhichSwitch" 397 y_w_worthiestFuse := Or.inl (q_inT5 9 rfl rfl)
theorem kc_w_400 : Cond.constantLong "WhichSwitch" 400 (10) ∈ q_tb := q_inT5 13 rfl rfl
theorem ml_w_402 : q_ML "WhichSwitch" 402 y_w_lotAfter := Or.inl (q_inT5 18 rfl rfl)
theorem kc_w_406 : Cond.constantLong "WhichSwitch" 406 (100) ∈ q_tb := q_inT5 23 rfl rfl
theorem kc_w_418 : Cond.constantLong "WhichSwitch" 418 (48271) ∈ q_tb := q_inT5 21 rfl rfl
theorem kc_w_420 : Cond.constantLong "WhichSwitch" 420 (2147483647) ∈ q_tb := q_inT5 22 rfl rfl
theorem ml_w_408 : q_ML "WhichSwitch" 408 y_moment_takeFrom := Or.inr ⟨"WhichSwitch", q_inN5 28 rfl rfl⟩
theorem fl_w_411 : q_FL "WhichSwitch" 411 "WhichSwitch" (q_T10 18).2.1 (q_T10 18).2.2.1 := Or.inl (q_inT3 2 rfl rfl)
theorem mw_moment_22 : Cond.methodLink "WhichSwitch$Moment" 22 arraycopyName ∈ q_tb := q_inT5 32 rfl rfl
theorem ml_moment_28 : q_ML "WhichSwitch$Moment" 28 y_ask_takeFrom := Or.inr ⟨"WhichSwitch", q_inN5 33 rfl rfl⟩
theorem fl_moment_32 : q_FL "WhichSwitch$Moment" 32 "WhichSwitch$Moment" (q_T4 2).2.1 (q_T4 2).2.2.1 := Or.inl (q_inT1 79 rfl rfl)
theorem fl_moment_36 : q_FL "WhichSwitch$Moment" 36 "WhichSwitch$Moment" (q_T4 3).2.1 (q_T4 3).2.2.1 := Or.inl (q_inT1 81 rfl rfl)
theorem fl_ask_7 : q_FL "WhichSwitch$Ask" 7 "WhichSwitch$Ask" (q_T0 0).2.1 (q_T0 0).2.2.1 := Or.inl (q_inT1 53 rfl rfl)
theorem fl_ask_13 : q_FL "WhichSwitch$Ask" 13 "WhichSwitch$Ask" (q_T0 1).2.1 (q_T0 1).2.2.1 := Or.inl (q_inT1 55 rfl rfl)
theorem fl_ask_16 : q_FL "WhichSwitch$Ask" 16 "WhichSwitch$Ask" (q_T0 2).2.1 (q_T0 2).2.2.1 := Or.inl (q_inT1 57 rfl rfl)
theorem fl_ask_19 : q_FL "WhichSwitch$Ask" 19 "WhichSwitch$Ask" (q_T0 3).2.1 (q_T0 3).2.2.1 := Or.inl (q_inT1 59 rfl rfl)
theorem fl_ask_22 : q_FL "WhichSwitch$Ask" 22 "WhichSwitch$Ask" (q_T0 4).2.1 (q_T0 4).2.2.1 := Or.inl (q_inT1 61 rfl rfl)
theorem ml_w_422 : q_ML "WhichSwitch" 422 y_sheet_become := Or.inr ⟨"WhichSwitch", q_inN5 45 rfl rfl⟩
theorem ml_w_424 : q_ML "WhichSwitch" 424 y_sheet_write := Or.inr ⟨"WhichSwitch", q_inN5 53 rfl rfl⟩
theorem fl_w_427 : q_FL "WhichSwitch" 427 "WhichSwitch$Sheet" (q_T6 1).2.1 (q_T6 1).2.2.1 := Or.inr ⟨"WhichSwitch", q_inN2 2 rfl rfl⟩
theorem ml_w_430 : q_ML "WhichSwitch" 430 y_sheet_holds := Or.inr ⟨"WhichSwitch", q_inN5 61 rfl rfl⟩
theorem mw_w_433 : Cond.methodLink "WhichSwitch" 433 arraycopyName ∈ q_tb := q_inT5 65 rfl rfl
theorem ml_w_439 : q_ML "WhichSwitch" 439 y_w_lamp := Or.inl (q_inT5 70 rfl rfl)
theorem ml_w_443 : q_ML "WhichSwitch" 443 y_w_takenFuse := Or.inl (q_inT5 75 rfl rfl)
theorem ml_w_446 : q_ML "WhichSwitch" 446 y_lamp_isA := Or.inr ⟨"WhichSwitch", q_inN5 79 rfl rfl⟩
theorem mw_r_1 : Cond.methodLink "WhichSwitchModel" 1 Lib.objectInit ∈ q_tb := q_inT5 88 rfl rfl
theorem fl_r_7 : q_FL "WhichSwitchModel" 7 "WhichSwitchModel" (q_T11 5).2.1 (q_T11 5).2.2.1 := Or.inl (q_inT5 112 rfl rfl)
theorem fw_r_7 : Cond.fieldLink "WhichSwitchModel" 7 "WhichSwitchModel" (q_T11 5).2.1 (q_T11 5).2.2.1 ∈ q_tb := q_inT5 112 rfl rfl
theorem fl_r_13 : q_FL "WhichSwitchModel" 13 "WhichSwitchModel" (q_T11 6).2.1 (q_T11 6).2.2.1 := Or.inl (q_inT5 113 rfl rfl)
theorem fw_r_13 : Cond.fieldLink "WhichSwitchModel" 13 "WhichSwitchModel" (q_T11 6).2.1 (q_T11 6).2.2.1 ∈ q_tb := q_inT5 113 rfl rfl
theorem fl_r_16 : q_FL "WhichSwitchModel" 16 "WhichSwitchModel" (q_T11 8).2.1 (q_T11 8).2.2.1 := Or.inl (q_inT5 115 rfl rfl)
theorem fw_r_16 : Cond.fieldLink "WhichSwitchModel" 16 "WhichSwitchModel" (q_T11 8).2.1 (q_T11 8).2.2.1 ∈ q_tb := q_inT5 115 rfl rfl
theorem fl_r_19 : q_FL "WhichSwitchModel" 19 "WhichSwitchModel" (q_T11 9).2.1 (q_T11 9).2.2.1 := Or.inl (q_inT5 116 rfl rfl)
theorem fw_r_19 : Cond.fieldLink "WhichSwitchModel" 19 "WhichSwitchModel" (q_T11 9).2.1 (q_T11 9).2.2.1 ∈ q_tb := q_inT5 116 rfl rfl
theorem fl_r_22 : q_FL "WhichSwitchModel" 22 "WhichSwitchModel" (q_T11 10).2.1 (q_T11 10).2.2.1 := Or.inl (q_inT5 117 rfl rfl)
theorem fw_r_22 : Cond.fieldLink "WhichSwitchModel" 22 "WhichSwitchModel" (q_T11 10).2.1 (q_T11 10).2.2.1 ∈ q_tb := q_inT5 117 rfl rfl
theorem fl_r_25 : q_FL "WhichSwitchModel" 25 "WhichSwitchModel" (q_T11 11).2.1 (q_T11 11).2.2.1 := Or.inl (q_inT5 118 rfl rfl)
theorem fw_r_25 : Cond.fieldLink "WhichSwitchModel" 25 "WhichSwitchModel" (q_T11 11).2.1 (q_T11 11).2.2.1 ∈ q_tb := q_inT5 118 rfl rfl
theorem fl_r_28 : q_FL "WhichSwitchModel" 28 "WhichSwitchModel" (q_T11 12).2.1 (q_T11 12).2.2.1 := Or.inl (q_inT5 119 rfl rfl)
theorem fw_r_28 : Cond.fieldLink "WhichSwitchModel" 28 "WhichSwitchModel" (q_T11 12).2.1 (q_T11 12).2.2.1 ∈ q_tb := q_inT5 119 rfl rfl
theorem fl_r_31 : q_FL "WhichSwitchModel" 31 "WhichSwitchModel" (q_T11 13).2.1 (q_T11 13).2.2.1 := Or.inl (q_inT5 120 rfl rfl)
theorem fw_r_31 : Cond.fieldLink "WhichSwitchModel" 31 "WhichSwitchModel" (q_T11 13).2.1 (q_T11 13).2.2.1 ∈ q_tb := q_inT5 120 rfl rfl
theorem fl_r_34 : q_FL "WhichSwitchModel" 34 "WhichSwitchModel" (q_T11 15).2.1 (q_T11 15).2.2.1 := Or.inl (q_inT5 122 rfl rfl)
theorem fw_r_34 : Cond.fieldLink "WhichSwitchModel" 34 "WhichSwitchModel" (q_T11 15).2.1 (q_T11 15).2.2.1 ∈ q_tb := q_inT5 122 rfl rfl
theorem fl_r_37 : q_FL "WhichSwitchModel" 37 "WhichSwitchModel" (q_T11 17).2.1 (q_T11 17).2.2.1 := Or.inl (q_inT5 124 rfl rfl)
theorem fw_r_37 : Cond.fieldLink "WhichSwitchModel" 37 "WhichSwitchModel" (q_T11 17).2.1 (q_T11 17).2.2.1 ∈ q_tb := q_inT5 124 rfl rfl
theorem fl_r_40 : q_FL "WhichSwitchModel" 40 "WhichSwitchModel" (q_T11 18).2.1 (q_T11 18).2.2.1 := Or.inl (q_inT5 125 rfl rfl)
theorem fw_r_40 : Cond.fieldLink "WhichSwitchModel" 40 "WhichSwitchModel" (q_T11 18).2.1 (q_T11 18).2.2.1 ∈ q_tb := q_inT5 125 rfl rfl
theorem fl_r_43 : q_FL "WhichSwitchModel" 43 "WhichSwitchModel" (q_T11 19).2.1 (q_T11 19).2.2.1 := Or.inl (q_inT5 126 rfl rfl)
theorem fw_r_43 : Cond.fieldLink "WhichSwitchModel" 43 "WhichSwitchModel" (q_T11 19).2.1 (q_T11 19).2.2.1 ∈ q_tb := q_inT5 126 rfl rfl
theorem fl_r_46 : q_FL "WhichSwitchModel" 46 "WhichSwitchModel" (q_T11 20).2.1 (q_T11 20).2.2.1 := Or.inl (q_inT5 127 rfl rfl)
theorem fw_r_46 : Cond.fieldLink "WhichSwitchModel" 46 "WhichSwitchModel" (q_T11 20).2.1 (q_T11 20).2.2.1 ∈ q_tb := q_inT5 127 rfl rfl
theorem fl_r_49 : q_FL "WhichSwitchModel" 49 "WhichSwitchModel" (q_T11 21).2.1 (q_T11 21).2.2.1 := Or.inl (q_inT5 128 rfl rfl)
theorem fw_r_49 : Cond.fieldLink "WhichSwitchModel" 49 "WhichSwitchModel" (q_T11 21).2.1 (q_T11 21).2.2.1 ∈ q_tb := q_inT5 128 rfl rfl
theorem fl_r_52 : q_FL "WhichSwitchModel" 52 "WhichSwitchModel" (q_T11 23).2.1 (q_T11 23).2.2.1 := Or.inl (q_inT5 130 rfl rfl)
theorem fw_r_52 : Cond.fieldLink "WhichSwitchModel" 52 "WhichSwitchModel" (q_T11 23).2.1 (q_T11 23).2.2.1 ∈ q_tb := q_inT5 130 rfl rfl
theorem fl_r_55 : q_FL "WhichSwitchModel" 55 "WhichSwitchModel" (q_T11 24).2.1 (q_T11 24).2.2.1 := Or.inl (q_inT5 131 rfl rfl)
theorem fw_r_55 : Cond.fieldLink "WhichSwitchModel" 55 "WhichSwitchModel" (q_T11 24).2.1 (q_T11 24).2.2.1 ∈ q_tb := q_inT5 131 rfl rfl
theorem fl_r_58 : q_FL "WhichSwitchModel" 58 "WhichSwitchModel" (q_T11 25).2.1 (q_T11 25).2.2.1 := Or.inl (q_inT5 132 rfl rfl)
theorem fw_r_58 : Cond.fieldLink "WhichSwitchModel" 58 "WhichSwitchModel" (q_T11 25).2.1 (q_T11 25).2.2.1 ∈ q_tb := q_inT5 132 rfl rfl
theorem fl_r_61 : q_FL "WhichSwitchModel" 61 "WhichSwitchModel" (q_T11 27).2.1 (q_T11 27).2.2.1 := Or.inl (q_inT5 134 rfl rfl)
theorem fw_r_61 : Cond.fieldLink "WhichSwitchModel" 61 "WhichSwitchModel" (q_T11 27).2.1 (q_T11 27).2.2.1 ∈ q_tb := q_inT5 134 rfl rfl
theorem fl_r_64 : q_FL "WhichSwitchModel" 64 "WhichSwitchModel" (q_T11 28).2.1 (q_T11 28).2.2.1 := Or.inl (q_inT5 135 rfl rfl)
theorem fw_r_64 : Cond.fieldLink "WhichSwitchModel" 64 "WhichSwitchModel" (q_T11 28).2.1 (q_T11 28).2.2.1 ∈ q_tb := q_inT5 135 rfl rfl
theorem fl_r_67 : q_FL "WhichSwitchModel" 67 "WhichSwitchModel" (q_T11 29).2.1 (q_T11 29).2.2.1 := Or.inl (q_inT5 136 rfl rfl)
theorem fl_r_71 : q_FL "WhichSwitchModel" 71 "WhichSwitchModel" (q_T11 38).2.1 (q_T11 38).2.2.1 := Or.inl (q_inT5 145 rfl rfl)
theorem fw_r_71 : Cond.fieldLink "WhichSwitchModel" 71 "WhichSwitchModel" (q_T11 38).2.1 (q_T11 38).2.2.1 ∈ q_tb := q_inT5 145 rfl rfl
theorem fl_r_74 : q_FL "WhichSwitchModel" 74 "WhichSwitchModel" (q_T11 39).2.1 (q_T11 39).2.2.1 := Or.inl (q_inT5 146 rfl rfl)
theorem fw_r_74 : Cond.fieldLink "WhichSwitchModel" 74 "WhichSwitchModel" (q_T11 39).2.1 (q_T11 39).2.2.1 ∈ q_tb := q_inT5 146 rfl rfl
theorem fl_r_77 : q_FL "WhichSwitchModel" 77 "WhichSwitchModel" (q_T11 40).2.1 (q_T11 40).2.2.1 := Or.inl (q_inT5 147 rfl rfl)
theorem fw_r_77 : Cond.fieldLink "WhichSwitchModel" 77 "WhichSwitchModel" (q_T11 40).2.1 (q_T11 40).2.2.1 ∈ q_tb := q_inT5 147 rfl rfl
theorem fl_r_80 : q_FL "WhichSwitchModel" 80 "WhichSwitchModel" (q_T11 41).2.1 (q_T11 41).2.2.1 := Or.inl (q_inT5 148 rfl rfl)
theorem fw_r_80 : Cond.fieldLink "WhichSwitchModel" 80 "WhichSwitchModel" (q_T11 41).2.1 (q_T11 41).2.2.1 ∈ q_tb := q_inT5 148 rfl rfl
theorem fl_r_83 : q_FL "WhichSwitchModel" 83 "WhichSwitchModel" (q_T11 42).2.1 (q_T11 42).2.2.1 := Or.inl (q_inT5 149 rfl rfl)
theorem fw_r_83 : Cond.fieldLink "WhichSwitchModel" 83 "WhichSwitchModel" (q_T11 42).2.1 (q_T11 42).2.2.1 ∈ q_tb := q_inT5 149 rfl rfl
theorem fl_r_86 : q_FL "WhichSwitchModel" 86 "WhichSwitchModel" (q_T11 43).2.1 (q_T11 43).2.2.1 := Or.inl (q_inT5 150 rfl rfl)
theorem fw_r_86 : Cond.fieldLink "WhichSwitchModel" 86 "WhichSwitchModel" (q_T11 43).2.1 (q_T11 43).2.2.1 ∈ q_tb := q_inT5 150 rfl rfl
theorem fl_r_89 : q_FL "WhichSwitchModel" 89 "WhichSwitchModel" (q_T11 44).2.1 (q_T11 44).2.2.1 := Or.inl (q_inT5 151 rfl rfl)
theorem fw_r_89 : Cond.fieldLink "WhichSwitchModel" 89 "WhichSwitchModel" (q_T11 44).2.1 (q_T11 44).2.2.1 ∈ q_tb := q_inT5 151 rfl rfl
theorem fl_r_92 : q_FL "WhichSwitchModel" 92 "WhichSwitchModel" (q_T11 45).2.1 (q_T11 45).2.2.1 := Or.inl (q_inT5 152 rfl rfl)
theorem fw_r_92 : Cond.fieldLink "WhichSwitchModel" 92 "WhichSwitchModel" (q_T11 45).2.1 (q_T11 45).2.2.1 ∈ q_tb := q_inT5 152 rfl rfl
theorem kc_r_95 : Cond.constantLong "WhichSwitchModel" 95 (1735159671) ∈ q_tb := q_inT5 89 rfl rfl
theorem kc_r_97 : Cond.constantLong "WhichSwitchModel" 97 (1953459813) ∈ q_tb := q_inT5 90 rfl rfl
theorem kc_r_99 : Cond.constantLong "WhichSwitchModel" 99 (1819238756) ∈ q_tb := q_inT5 91 rfl rfl
theorem kc_r_101 : Cond.constantLong "WhichSwitchModel" 101 (482906432882) ∈ q_tb := q_inT5 92 rfl rfl
theorem kc_r_103 : Cond.constantLong "WhichSwitchModel" 103 (7499639) ∈ q_tb := q_inT5 93 rfl rfl
theorem kc_r_105 : Cond.constantLong "WhichSwitchModel" 105 (1752135026) ∈ q_tb := q_inT5 94 rfl rfl
theorem kc_r_107 : Cond.constantLong "WhichSwitchModel" 107 (1919905645) ∈ q_tb := q_inT5 95 rfl rfl
theorem kc_r_109 : Cond.constantLong "WhichSwitchModel" 109 (1836020325) ∈ q_tb := q_inT5 96 rfl rfl
theorem kc_r_111 : Cond.constantLong "WhichSwitchModel" 111 (6709618) ∈ q_tb := q_inT5 97 rfl rfl
theorem kc_r_113 : Cond.constantLong "WhichSwitchModel" 113 (28530) ∈ q_tb := q_inT5 98 rfl rfl
theorem kc_r_115 : Cond.constantLong "WhichSwitchModel" 115 (6385252) ∈ q_tb := q_inT5 99 rfl rfl
theorem kc_r_117 : Cond.constantLong "WhichSwitchModel" 117 (7237492) ∈ q_tb := q_inT5 100 rfl rfl
theorem fl_r_119 : q_FL "WhichSwitchModel" 119 "WhichSwitchModel" (q_T11 50).2.1 (q_T11 50).2.2.1 := Or.inl (q_inT5 157 rfl rfl)
theorem fw_r_119 : Cond.fieldLink "WhichSwitchModel" 119 "WhichSwitchModel" (q_T11 50).2.1 (q_T11 50).2.2.1 ∈ q_tb := q_inT5 157 rfl rfl
theorem fl_r_123 : q_FL "WhichSwitchModel" 123 "WhichSwitchModel" (q_T11 51).2.1 (q_T11 51).2.2.1 := Or.inl (q_inT5 158 rfl rfl)
theorem fw_r_123 : Cond.fieldLink "WhichSwitchModel" 123 "WhichSwitchModel" (q_T11 51).2.1 (q_T11 51).2.2.1 ∈ q_tb := q_inT5 158 rfl rfl
theorem fl_r_126 : q_FL "WhichSwitchModel" 126 "WhichSwitchModel" (q_T11 55).2.1 (q_T11 55).2.2.1 := Or.inl (q_inT5 162 rfl rfl)
theorem fw_r_126 : Cond.fieldLink "WhichSwitchModel" 126 "WhichSwitchModel" (q_T11 55).2.1 (q_T11 55).2.2.1 ∈ q_tb := q_inT5 162 rfl rfl
theorem fl_r_129 : q_FL "WhichSwitchModel" 129 "WhichSwitchModel" (q_T11 56).2.1 (q_T11 56).2.2.1 := Or.inl (q_inT5 163 rfl rfl)
theorem fw_r_129 : Cond.fieldLink "WhichSwitchModel" 129 "WhichSwitchModel" (q_T11 56).2.1 (q_T11 56).2.2.1 ∈ q_tb := q_inT5 163 rfl rfl
theorem fl_r_132 : q_FL "WhichSwitchModel" 132 "WhichSwitchModel" (q_T11 57).2.1 (q_T11 57).2.2.1 := Or.inl (q_inT5 164 rfl rfl)
theorem fw_r_132 : Cond.fieldLink "WhichSwitchModel" 132 "WhichSwitchModel" (q_T11 57).2.1 (q_T11 57).2.2.1 ∈ q_tb := q_inT5 164 rfl rfl
theorem fl_r_135 : q_FL "WhichSwitchModel" 135 "WhichSwitchModel" (q_T11 59).2.1 (q_T11 59).2.2.1 := Or.inl (q_inT5 166 rfl rfl)
theorem fw_r_135 : Cond.fieldLink "WhichSwitchModel" 135 "WhichSwitchModel" (q_T11 59).2.1 (q_T11 59).2.2.1 ∈ q_tb := q_inT5 166 rfl rfl
theorem fl_r_138 : q_FL "WhichSwitchModel" 138 "WhichSwitchModel" (q_T11 60).2.1 (q_T11 60).2.2.1 := Or.inl (q_inT5 167 rfl rfl)
theorem fw_r_138 : Cond.fieldLink "WhichSwitchModel" 138 "WhichSwitchModel" (q_T11 60).2.1 (q_T11 60).2.2.1 ∈ q_tb := q_inT5 167 rfl rfl
theorem fl_r_141 : q_FL "WhichSwitchModel" 141 "WhichSwitchModel" (q_T11 61).2.1 (q_T11 61).2.2.1 := Or.inl (q_inT5 168 rfl rfl)
theorem fw_r_141 : Cond.fieldLink "WhichSwitchModel" 141 "WhichSwitchModel" (q_T11 61).2.1 (q_T11 61).2.2.1 ∈ q_tb := q_inT5 168 rfl rfl
theorem kc_r_144 : Cond.constant "WhichSwitchModel" 144 (100090) ∈ q_tb := q_inT5 101 rfl rfl
theorem kc_r_145 : Cond.constant "WhichSwitchModel" 145 (100007) ∈ q_tb := q_inT5 102 rfl rfl
theorem ml_r_146 : q_ML "WhichSwitchModel" 146 y_r_first := Or.inl (q_inT5 103 rfl rfl)
theorem ml_r_153 : q_ML "WhichSwitchModel" 153 y_r_in := Or.inl (q_inT6 58 rfl rfl)
theorem fl_r_160 : q_FL "WhichSwitchModel" 160 "WhichSwitchModel" (q_T11 4).2.1 (q_T11 4).2.2.1 := Or.inl (q_inT5 111 rfl rfl)
theorem ml_r_163 : q_ML "WhichSwitchModel" 163 y_r_areFuses := Or.inl (q_inT6 65 rfl rfl)
theorem ml_r_167 : q_ML "WhichSwitchModel" 167 y_r_count := Or.inl (q_inT6 69 rfl rfl)
theorem fl_r_171 : q_FL "WhichSwitchModel" 171 "WhichSwitchModel" (q_T11 0).2.1 (q_T11 0).2.2.1 := Or.inl (q_inT5 107 rfl rfl)
theorem fl_r_174 : q_FL "WhichSwitchModel" 174 "WhichSwitchModel" (q_T11 1).2.1 (q_T11 1).2.2.1 := Or.inl (q_inT5 108 rfl rfl)
theorem fl_r_177 : q_FL "WhichSwitchModel" 177 "WhichSwitchModel" (q_T11 2).2.1 (q_T11 2).2.2.1 := Or.inl (q_inT5 109 rfl rfl)
theorem fl_r_180 : q_FL "WhichSwitchModel" 180 "WhichSwitchModel" (q_T11 3).2.1 (q_T11 3).2.2.1 := Or.inl (q_inT5 110 rfl rfl)
theorem fl_r_150 : q_FL "WhichSwitchModel" 150 "WhichSwitchModel" (q_T11 7).2.1 (q_T11 7).2.2.1 := Or.inl (q_inT5 114 rfl rfl)
theorem fl_r_157 : q_FL "WhichSwitchModel" 157 "WhichSwitchModel" (q_T11 14).2.1 (q_T11 14).2.2.1 := Or.inl (q_inT5 121 rfl rfl)
theorem fl_r_183 : q_FL "WhichSwitchModel" 183 "WhichSwitchModel" (q_T11 16).2.1 (q_T11 16).2.2.1 := Or.inl (q_inT5 123 rfl rfl)
theorem fl_r_186 : q_FL "WhichSwitchModel" 186 "WhichSwitchModel" (q_T11 22).2.1 (q_T11 22).2.2.1 := Or.inl (q_inT5 129 rfl rfl)
theorem fl_r_189 : q_FL "WhichSwitchModel" 189 "WhichSwitchModel" (q_T11 30).2.1 (q_T11 30).2.2.1 := Or.inl (q_inT5 137 rfl rfl)
theorem fl_r_192 : q_FL "WhichSwitchModel" 192 "WhichSwitchModel" (q_T11 26).2.1 (q_T11 26).2.2.1 := Or.inl (q_inT5 133 rfl rfl)
theorem ml_r_195 : q_ML "WhichSwitchModel" 195 y_r_isLamp := Or.inl (q_inT6 82 rfl rfl)
theorem kc_r_198 : Cond.constantLong "WhichSwitchModel" 198 (255) ∈ q_tb := q_inT6 90 rfl rfl
theorem fl_r_200 : q_FL "WhichSwitchModel" 200 "WhichSwitchModel" (q_T11 46).2.1 (q_T11 46).2.2.1 := Or.inl (q_inT5 153 rfl rfl)
theorem fl_r_216 : q_FL "WhichSwitchModel" 216 "WhichSwitchModel" (q_T11 54).2.1 (q_T11 54).2.2.1 := Or.inl (q_inT5 161 rfl rfl)
theorem ml_r_238 : q_ML "WhichSwitchModel" 238 y_r_next0 := Or.inl (q_inT6 95 rfl rfl)
theorem fl_r_206 : q_FL "WhichSwitchModel" 206 "WhichSwitchModel" (q_T11 48).2.1 (q_T11 48).2.2.1 := Or.inl (q_inT5 155 rfl rfl)
theorem fl_r_209 : q_FL "WhichSwitchModel" 209 "WhichSwitchModel" (q_T11 49).2.1 (q_T11 49).2.2.1 := Or.inl (q_inT5 156 rfl rfl)
theorem ml_r_252 : q_ML "WhichSwitchModel" 252 y_r_eRead := Or.inl (q_inT6 103 rfl rfl)
theorem fl_r_203 : q_FL "WhichSwitchModel" 203 "WhichSwitchModel" (q_T11 47).2.1 (q_T11 47).2.2.1 := Or.inl (q_inT5 154 rfl rfl)
theorem ml_r_212 : q_ML "WhichSwitchModel" 212 y_r_letters := Or.inl (q_inT6 99 rfl rfl)
theorem fl_r_219 : q_FL "WhichSwitchModel" 219 "WhichSwitchModel" (q_T11 52).2.1 (q_T11 52).2.2.1 := Or.inl (q_inT5 159 rfl rfl)
theorem fl_r_225 : q_FL "WhichSwitchModel" 225 "WhichSwitchModel" (q_T11 53).2.1 (q_T11 53).2.2.1 := Or.inl (q_inT5 160 rfl rfl)
theorem kc_r_241 : Cond.constant "WhichSwitchModel" 241 (100000) ∈ q_tb := q_inT6 107 rfl rfl
theorem ml_r_228 : q_ML "WhichSwitchModel" 228 y_r_puts := Or.inl (q_inT6 108 rfl rfl)
theorem ml_r_235 : q_ML "WhichSwitchModel" 235 y_r_unwinds := Or.inl (q_inT6 112 rfl rfl)
theorem ml_r_242 : q_ML "WhichSwitchModel" 242 y_r_opensOne := Or.inl (q_inT6 119 rfl rfl)
theorem ml_r_245 : q_ML "WhichSwitchModel" 245 y_r_signOf := Or.inl (q_inT6 127 rfl rfl)
theorem ml_r_249 : q_ML "WhichSwitchModel" 249 y_r_between := Or.inl (q_inT6 131 rfl rfl)
theorem ml_r_222 : q_ML "WhichSwitchModel" 222 y_r_rank := Or.inl (q_inT6 116 rfl rfl)
theorem ml_r_232 : q_ML "WhichSwitchModel" 232 y_r_holds := Or.inl (q_inT6 123 rfl rfl)
theorem ml_r_263 : q_ML "WhichSwitchModel" 263 y_r_tellsFuses := Or.inl (q_inT6 143 rfl rfl)
theorem ml_r_266 : q_ML "WhichSwitchModel" 266 y_r_isHouse := Or.inl (q_inT6 151 rfl rfl)
theorem ml_r_279 : q_ML "WhichSwitchModel" 279 y_r_litNow := Or.inl (q_inT6 159 rfl rfl)
theorem ml_r_275 : q_ML "WhichSwitchModel" 275 y_r_lit := Or.inl (q_inT6 163 rfl rfl)
theorem ml_r_269 : q_ML "WhichSwitchModel" 269 y_r_isFed := Or.inl (q_inT6 167 rfl rfl)
theorem ml_r_272 : q_ML "WhichSwitchModel" 272 y_r_isOn := Or.inl (q_inT6 171 rfl rfl)
theorem ml_r_289 : q_ML "WhichSwitchModel" 289 y_r_brightIn := Or.inl (q_inT6 179 rfl rfl)
theorem ml_r_282 : q_ML "WhichSwitchModel" 282 y_r_rowOf := Or.inl (q_inT6 183 rfl rfl)
theorem ml_r_286 : q_ML "WhichSwitchModel" 286 y_r_says := Or.inl (q_inT6 187 rfl rfl)
theorem ml_r_260 : q_ML "WhichSwitchModel" 260 y_r_worth := Or.inl (q_inT6 191 rfl rfl)
theorem ml_r_256 : q_ML "WhichSwitchModel" 256 y_r_two := Or.inl (q_inT6 195 rfl rfl)
theorem ml_r_298 : q_ML "WhichSwitchModel" 298 y_r_areThere := Or.inl (q_inT6 210 rfl rfl)
theorem ml_r_292 : q_ML "WhichSwitchModel" 292 y_r_areRooms := Or.inl (q_inT6 214 rfl rfl)
theorem ml_r_295 : q_ML "WhichSwitchModel" 295 y_r_lampsIn := Or.inl (q_inT6 217 rfl rfl)
theorem ml_r_302 : q_ML "WhichSwitchModel" 302 y_r_amissIn := Or.inl (q_inT6 229 rfl rfl)
theorem ml_r_308 : q_ML "WhichSwitchModel" 308 y_r_missOf := Or.inl (q_inT6 237 rfl rfl)
theorem ml_r_305 : q_ML "WhichSwitchModel" 305 y_r_ones := Or.inl (q_inT7 1 rfl rfl)
theorem ml_r_311 : q_ML "WhichSwitchModel" 311 y_r_nearTo := Or.inl (q_inT7 8 rfl rfl)
theorem ml_r_314 : q_ML "WhichSwitchModel" 314 y_r_kindsOf := Or.inl (q_inT7 24 rfl rfl)
theorem ml_r_320 : q_ML "WhichSwitchModel" 320 y_r_greatest := Or.inl (q_inT7 28 rfl rfl)
theorem ml_r_317 : q_ML "WhichSwitchModel" 317 y_r_likeOf := Or.inl (q_inT7 32 rfl rfl)
theorem ml_r_326 : q_ML "WhichSwitchModel" 326 y_r_nextFor := Or.inl (q_inT7 40 rfl rfl)
theorem fl_r_323 : q_FL "WhichSwitchModel" 323 "WhichSwitchModel" (q_T11 58).2.1 (q_T11 58).2.2.1 := Or.inl (q_inT5 165 rfl rfl)
theorem ml_r_329 : q_ML "WhichSwitchModel" 329 y_r_sureOf := Or.inl (q_inT7 60 rfl rfl)
theorem ml_r_332 : q_ML "WhichSwitchModel" 332 y_r_liveIn := Or.inl (q_inT7 72 rfl rfl)
theorem ml_r_338 : q_ML "WhichSwitchModel" 338 y_r_sumsOf := Or.inl (q_inT7 88 rfl rfl)
theorem ml_r_335 : q_ML "WhichSwitchModel" 335 y_r_sumOf := Or.inl (q_inT7 92 rfl rfl)
theorem ml_r_341 : q_ML "WhichSwitchModel" 341 y_r_agrees := Or.inl (q_inT7 112 rfl rfl)
theorem ml_r_344 : q_ML "WhichSwitchModel" 344 y_r_agreesAll := Or.inl (q_inT7 120 rfl rfl)
theorem kc_r_347 : Cond.constantLong "WhichSwitchModel" 347 (-4611686018427387904) ∈ q_tb := q_inT7 128 rfl rfl
theorem ml_r_349 : q_ML "WhichSwitchModel" 349 y_r_size := Or.inl (q_inT7 133 rfl rfl)
theorem ml_r_352 : q_ML "WhichSwitchModel" 352 y_r_toneAt := Or.inl (q_inT7 136 rfl rfl)
theorem ml_r_355 : q_ML "WhichSwitchModel" 355 y_r_loadOf := Or.inl (q_inT7 148 rfl rfl)
theorem ml_r_358 : q_ML "WhichSwitchModel" 358 y_r_meterOf := Or.inl (q_inT7 164 rfl rfl)
theorem kc_r_361 : Cond.constant "WhichSwitchModel" 361 (99999) ∈ q_tb := q_inT7 172 rfl rfl
theorem kc_r_362 : Cond.constantLong "WhichSwitchModel" 362 (10) ∈ q_tb := q_inT7 177 rfl rfl
theorem kc_r_364 : Cond.constantLong "WhichSwitchModel" 364 (48271) ∈ q_tb := q_inT7 182 rfl rfl
theorem kc_r_366 : Cond.constantLong "WhichSwitchModel" 366 (2147483647) ∈ q_tb := q_inT7 183 rfl rfl
theorem kc_r_368 : Cond.constantLong "WhichSwitchModel" 368 (100) ∈ q_tb := q_inT7 184 rfl rfl
theorem fl_r_370 : q_FL "WhichSwitchModel" 370 "WhichSwitchModel" (q_T11 31).2.1 (q_T11 31).2.2.1 := Or.inl (q_inT5 138 rfl rfl)
theorem fl_r_374 : q_FL "WhichSwitchModel" 374 "WhichSwitchModel" (q_T11 32).2.1 (q_T11 32).2.2.1 := Or.inl (q_inT5 139 rfl rfl)
theorem fl_r_377 : q_FL "WhichSwitchModel" 377 "WhichSwitchModel" (q_T11 33).2.1 (q_T11 33).2.2.1 := Or.inl (q_inT5 140 rfl rfl)
theorem fl_r_380 : q_FL "WhichSwitchModel" 380 "WhichSwitchModel" (q_T11 34).2.1 (q_T11 34).2.2.1 := Or.inl (q_inT5 141 rfl rfl)
theorem fl_r_383 : q_FL "WhichSwitchModel" 383 "WhichSwitchModel" (q_T11 35).2.1 (q_T11 35).2.2.1 := Or.inl (q_inT5 142 rfl rfl)
theorem fl_r_386 : q_FL "WhichSwitchModel" 386 "WhichSwitchModel" (q_T11 36).2.1 (q_T11 36).2.2.1 := Or.inl (q_inT5 143 rfl rfl)
theorem fl_r_389 : q_FL "WhichSwitchModel" 389 "WhichSwitchModel" (q_T11 37).2.1 (q_T11 37).2.2.1 := Or.inl (q_inT5 144 rfl rfl)
theorem ml_r_392 : q_ML "WhichSwitchModel" 392 y_r_lamp := Or.inl (q_inT7 209 rfl rfl)
theorem ml_r_395 : q_ML "WhichSwitchModel" 395 y_r_isUnder := Or.inl (q_inT7 214 rfl rfl)
theorem cl_whichswitchlaw_7 : Cond.classLink "WhichSwitchLaw" 7 "WhichSwitch" ∈ q_tb := q_inT1 22 rfl rfl
theorem cn_10 : Cond.instantiable "WhichSwitch" 19 ∈ q_tb := q_inT1 23 rfl rfl
theorem cj_10 : Cond.initialized "WhichSwitch" ∈ q_tb := q_inT1 1 rfl rfl
theorem ml_whichswitchlaw_9 : q_ML "WhichSwitchLaw" 9 y_w_init := Or.inl (q_inT1 24 rfl rfl)
theorem cl_whichswitchlaw_10 : Cond.classLink "WhichSwitchLaw" 10 "WhichSwitchModel" ∈ q_tb := q_inT5 83 rfl rfl
theorem cn_11 : Cond.instantiable "WhichSwitchModel" 62 ∈ q_tb := q_inT5 84 rfl rfl
theorem cj_11 : Cond.initialized "WhichSwitchModel" ∈ q_tb := q_inT1 19 rfl rfl
theorem ml_whichswitchlaw_12 : q_ML "WhichSwitchLaw" 12 y_r_init := Or.inl (q_inT5 85 rfl rfl)
theorem ml_whichswitchlaw_13 : q_ML "WhichSwitchLaw" 13 y_w_fuse := Or.inl (q_inT3 43 rfl rfl)
theorem ml_whichswitchlaw_17 : q_ML "WhichSwitchLaw" 17 y_r_fuse := Or.inl (q_inT6 54 rfl rfl)
theorem ml_whichswitchlaw_18 : q_ML "WhichSwitchLaw" 18 y_w_set := Or.inl (q_inT3 48 rfl rfl)
theorem ml_whichswitchlaw_21 : q_ML "WhichSwitchLaw" 21 y_r_set := Or.inl (q_inT6 61 rfl rfl)
theorem ml_whichswitchlaw_22 : q_ML "WhichSwitchLaw" 22 y_w_count := Or.inl (q_inT3 59 rfl rfl)
theorem ml_whichswitchlaw_26 : q_ML "WhichSwitchLaw" 26 y_r_count := Or.inl (q_inT6 73 rfl rfl)
theorem ml_whichswitchlaw_27 : q_ML "WhichSwitchLaw" 27 y_w_lamp := Or.inl (q_inT3 63 rfl rfl)
theorem ml_whichswitchlaw_31 : q_ML "WhichSwitchLaw" 31 y_r_lamp := Or.inl (q_inT6 74 rfl rfl)
theorem ml_whichswitchlaw_32 : q_ML "WhichSwitchLaw" 32 y_w_lampTold := Or.inl (q_inT3 74 rfl rfl)
theorem ml_whichswitchlaw_35 : q_ML "WhichSwitchLaw" 35 y_r_lampTold := Or.inl (q_inT6 78 rfl rfl)
theorem kc_whichswitchlaw_36 : Cond.constantLong "WhichSwitchLaw" 36 (4294967295) ∈ q_tb := q_inT7 217 rfl rfl
theorem ml_whichswitchlaw_38 : q_ML "WhichSwitchLaw" 38 y_w_feed := Or.inl (q_inT3 82 rfl rfl)
theorem ml_whichswitchlaw_42 : q_ML "WhichSwitchLaw" 42 y_r_feed := Or.inl (q_inT6 86 rfl rfl)
theorem ml_whichswitchlaw_43 : q_ML "WhichSwitchLaw" 43 y_w_text := Or.inl (q_inT3 87 rfl rfl)
theorem ml_whichswitchlaw_47 : q_ML "WhichSwitchLaw" 47 y_r_text := Or.inl (q_inT6 91 rfl rfl)
theorem ml_whichswitchlaw_48 : q_ML "WhichSwitchLaw" 48 y_w_force := Or.inl (q_inT3 91 rfl rfl)
theorem ml_whichswitchlaw_51 : q_ML "WhichSwitchLaw" 51 y_r_force := Or.inl (q_inT6 135 rfl rfl)
theorem ml_whichswitchlaw_52 : q_ML "WhichSwitchLaw" 52 y_w_house := Or.inl (q_inT3 95 rfl rfl)
theorem ml_whichswitchlaw_55 : q_ML "WhichSwitchLaw" 55 y_r_house := Or.inl (q_inT6 139 rfl rfl)
theorem ml_whichswitchlaw_56 : q_ML "WhichSwitchLaw" 56 y_w_fedBy := Or.inl (q_inT3 120 rfl rfl)
theorem ml_whichswitchlaw_59 : q_ML "WhichSwitchLaw" 59 y_r_fedBy := Or.inl (q_inT6 147 rfl rfl)
theorem ml_whichswitchlaw_60 : q_ML "WhichSwitchLaw" 60 y_w_show := Or.inl (q_inT3 128 rfl rfl)
theorem ml_whichswitchlaw_63 : q_ML "WhichSwitchLaw" 63 y_r_show := Or.inl (q_inT6 155 rfl rfl)
theorem ml_whichswitchlaw_64 : q_ML "WhichSwitchLaw" 64 y_w_bright := Or.inl (q_inT3 153 rfl rfl)
theorem ml_whichswitchlaw_67 : q_ML "WhichSwitchLaw" 67 y_r_bright := Or.inl (q_inT6 175 rfl rfl)
theorem ml_whichswitchlaw_68 : q_ML "WhichSwitchLaw" 68 y_w_room := Or.inl (q_inT3 200 rfl rfl)
theorem ml_whichswitchlaw_71 : q_ML "WhichSwitchLaw" 71 y_r_room := Or.inl (q_inT6 198 rfl rfl)
theorem ml_whichswitchlaw_72 : q_ML "WhichSwitchLaw" 72 y_w_nothing := Or.inl (q_inT3 207 rfl rfl)
theorem ml_whichswitchlaw_75 : q_ML "WhichSwitchLaw" 75 y_r_nothing := Or.inl (q_inT6 202 rfl rfl)
theorem ml_whichswitchlaw_76 : q_ML "WhichSwitchLaw" 76 y_w_ask := Or.inl (q_inT3 211 rfl rfl)
theorem ml_whichswitchlaw_79 : q_ML "WhichSwitchLaw" 79 y_r_ask := Or.inl (q_inT6 206 rfl rfl)
theorem ml_whichswitchlaw_80 : q_ML "WhichSwitchLaw" 80 y_w_forget := Or.inl (q_inT3 225 rfl rfl)
theorem ml_whichswitchlaw_83 : q_ML "WhichSwitchLaw" 83 y_r_forget := Or.inl (q_inT6 221 rfl rfl)
theorem ml_whichswitchlaw_84 : q_ML "WhichSwitchLaw" 84 y_w_amiss := Or.inl (q_inT3 229 rfl rfl)
theorem ml_whichswitchlaw_87 : q_ML "WhichSwitchLaw" 87 y_r_amiss := Or.inl (q_inT6 225 rfl rfl)
theorem ml_whichswitchlaw_88 : q_ML "WhichSwitchLaw" 88 y_w_miss := Or.inl (q_inT3 237 rfl rfl)
theorem ml_whichswitchlaw_91 : q_ML "WhichSwitchLaw" 91 y_r_miss := Or.inl (q_inT6 233 rfl rfl)
theorem ml_whichswitchlaw_92 : q_ML "WhichSwitchLaw" 92 y_w_lets := Or.inl (q_inT4 11 rfl rfl)
theorem ml_whichswitchlaw_95 : q_ML "WhichSwitchLaw" 95 y_r_lets := Or.inl (q_inT7 4 rfl rfl)
theorem ml_whichswitchlaw_96 : q_ML "WhichSwitchLaw" 96 y_w_likeliest := Or.inl (q_inT4 23 rfl rfl)
theorem ml_whichswitchlaw_99 : q_ML "WhichSwitchLaw" 99 y_r_likeliest := Or.inl (q_inT7 12 rfl rfl)
theorem ml_whichswitchlaw_100 : q_ML "WhichSwitchLaw" 100 y_w_near := Or.inl (q_inT4 27 rfl rfl)
theorem ml_whichswitchlaw_103 : q_ML "WhichSwitchLaw" 103 y_r_near := Or.inl (q_inT7 16 rfl rfl)
theorem ml_whichswitchlaw_104 : q_ML "WhichSwitchLaw" 104 y_w_parts := Or.inl (q_inT4 31 rfl rfl)
theorem ml_whichswitchlaw_108 : q_ML "WhichSwitchLaw" 108 y_r_parts := Or.inl (q_inT7 20 rfl rfl)
theorem ml_whichswitchlaw_109 : q_ML "WhichSwitchLaw" 109 y_w_next := Or.inl (q_inT4 55 rfl rfl)
theorem ml_whichswitchlaw_112 : q_ML "WhichSwitchLaw" 112 y_r_next1 := Or.inl (q_inT7 36 rfl rfl)
theorem ml_whichswitchlaw_113 : q_ML "WhichSwitchLaw" 113 y_w_ahead := Or.inl (q_inT4 63 rfl rfl)
theorem ml_whichswitchlaw_116 : q_ML "WhichSwitchLaw" 116 y_r_ahead := Or.inl (q_inT7 44 rfl rfl)
theorem ml_whichswitchlaw_117 : q_ML "WhichSwitchLaw" 117 y_w_plan := Or.inl (q_inT4 71 rfl rfl)
theorem ml_whichswitchlaw_120 : q_ML "WhichSwitchLaw" 120 y_r_plan := Or.inl (q_inT7 48 rfl rfl)
theorem ml_whichswitchlaw_121 : q_ML "WhichSwitchLaw" 121 y_w_bound := Or.inl (q_inT4 75 rfl rfl)
theorem ml_whichswitchlaw_124 : q_ML "WhichSwitchLaw" 124 y_r_bound := Or.inl (q_inT7 52 rfl rfl)
theorem ml_whichswitchlaw_125 : q_ML "WhichSwitchLaw" 125 y_w_sure := Or.inl (q_inT4 79 rfl rfl)
theorem ml_whichswitchlaw_128 : q_ML "WhichSwitchLaw" 128 y_r_sure := Or.inl (q_inT7 56 rfl rfl)
theorem ml_whichswitchlaw_129 : q_ML "WhichSwitchLaw" 129 y_w_grey := Or.inl (q_inT4 87 rfl rfl)
theorem ml_whichswitchlaw_132 : q_ML "WhichSwitchLaw" 132 y_r_grey := Or.inl (q_inT7 64 rfl rfl)
theorem ml_whichswitchlaw_133 : q_ML "WhichSwitchLaw" 133 y_w_live := Or.inl (q_inT4 91 rfl rfl)
theorem ml_whichswitchlaw_136 : q_ML "WhichSwitchLaw" 136 y_r_live := Or.inl (q_inT7 68 rfl rfl)
theorem ml_whichswitchlaw_137 : q_ML "WhichSwitchLaw" 137 y_w_dead := Or.inl (q_inT4 99 rfl rfl)
theorem ml_whichswitchlaw_140 : q_ML "WhichSwitchLaw" 140 y_r_dead := Or.inl (q_inT7 76 rfl rfl)
theorem ml_whichswitchlaw_141 : q_ML "WhichSwitchLaw" 141 y_w_touch := Or.inl (q_inT4 103 rfl rfl)
theorem ml_whichswitchlaw_144 : q_ML "WhichSwitchLaw" 144 y_r_touch := Or.inl (q_inT7 80 rfl rfl)
theorem ml_whichswitchlaw_145 : q_ML "WhichSwitchLaw" 145 y_w_sums := Or.inl (q_inT4 107 rfl rfl)
theorem ml_whichswitchlaw_148 : q_ML "WhichSwitchLaw" 148 y_r_sums := Or.inl (q_inT7 84 rfl rfl)
theorem ml_whichswitchlaw_149 : q_ML "WhichSwitchLaw" 149 y_w_which := Or.inl (q_inT4 133 rfl rfl)
theorem ml_whichswitchlaw_152 : q_ML "WhichSwitchLaw" 152 y_r_which := Or.inl (q_inT7 96 rfl rfl)
theorem ml_whichswitchlaw_153 : q_ML "WhichSwitchLaw" 153 y_w_put := Or.inl (q_inT4 141 rfl rfl)
theorem ml_whichswitchlaw_156 : q_ML "WhichSwitchLaw" 156 y_r_put := Or.inl (q_inT7 100 rfl rfl)
theorem ml_whichswitchlaw_157 : q_ML "WhichSwitchLaw" 157 y_w_label := Or.inl (q_inT4 153 rfl rfl)
theorem ml_whichswitchlaw_160 : q_ML "WhichSwitchLaw" 160 y_r_label := Or.inl (q_inT7 104 rfl rfl)
theorem ml_whichswitchlaw_161 : q_ML "WhichSwitchLaw" 161 y_w_agree := Or.inl (q_inT4 157 rfl rfl)
theorem ml_whichswitchlaw_164 : q_ML "WhichSwitchLaw" 164 y_r_agree := Or.inl (q_inT7 108 rfl rfl)
theorem ml_whichswitchlaw_165 : q_ML "WhichSwitchLaw" 165 y_w_right := Or.inl (q_inT4 169 rfl rfl)
theorem ml_whichswitchlaw_168 : q_ML "WhichSwitchLaw" 168 y_r_right := Or.inl (q_inT7 116 rfl rfl)
theorem ml_whichswitchlaw_169 : q_ML "WhichSwitchLaw" 169 y_w_odds := Or.inl (q_inT4 177 rfl rfl)
theorem ml_whichswitchlaw_173 : q_ML "WhichSwitchLaw" 173 y_r_odds := Or.inl (q_inT7 124 rfl rfl)
theorem ml_whichswitchlaw_174 : q_ML "WhichSwitchLaw" 174 y_w_wall := Or.inl (q_inT4 185 rfl rfl)
theorem ml_whichswitchlaw_177 : q_ML "WhichSwitchLaw" 177 y_r_wall := Or.inl (q_inT7 129 rfl rfl)
theorem ml_whichswitchlaw_178 : q_ML "WhichSwitchLaw" 178 y_w_broken := Or.inl (q_inT4 200 rfl rfl)
theorem ml_whichswitchlaw_181 : q_ML "WhichSwitchLaw" 181 y_r_broken := Or.inl (q_inT7 140 rfl rfl)
theorem ml_whichswitchlaw_182 : q_ML "WhichSwitchLaw" 182 y_w_load := Or.inl (q_inT4 204 rfl rfl)
theorem ml_whichswitchlaw_185 : q_ML "WhichSwitchLaw" 185 y_r_load := Or.inl (q_inT7 144 rfl rfl)
theorem ml_whichswitchlaw_186 : q_ML "WhichSwitchLaw" 186 y_w_over := Or.inl (q_inT4 224 rfl rfl)
theorem ml_whichswitchlaw_189 : q_ML "WhichSwitchLaw" 189 y_r_over := Or.inl (q_inT7 152 rfl rfl)
theorem ml_whichswitchlaw_190 : q_ML "WhichSwitchLaw" 190 y_w_thick := Or.inl (q_inT4 228 rfl rfl)
theorem ml_whichswitchlaw_193 : q_ML "WhichSwitchLaw" 193 y_r_thick := Or.inl (q_inT7 156 rfl rfl)
theorem ml_whichswitchlaw_194 : q_ML "WhichSwitchLaw" 194 y_w_meter := Or.inl (q_inT4 236 rfl rfl)
theorem ml_whichswitchlaw_197 : q_ML "WhichSwitchLaw" 197 y_r_meter := Or.inl (q_inT7 160 rfl rfl)
theorem ml_whichswitchlaw_198 : q_ML "WhichSwitchLaw" 198 y_w_witness := Or.inl (q_inT5 0 rfl rfl)
theorem ml_whichswitchlaw_201 : q_ML "WhichSwitchLaw" 201 y_r_witness := Or.inl (q_inT7 168 rfl rfl)
theorem ml_whichswitchlaw_202 : q_ML "WhichSwitchLaw" 202 y_w_order := Or.inl (q_inT5 5 rfl rfl)
theorem ml_whichswitchlaw_205 : q_ML "WhichSwitchLaw" 205 y_r_order := Or.inl (q_inT7 173 rfl rfl)
theorem ml_whichswitchlaw_206 : q_ML "WhichSwitchLaw" 206 y_w_drawn := Or.inl (q_inT5 14 rfl rfl)
theorem ml_whichswitchlaw_209 : q_ML "WhichSwitchLaw" 209 y_r_drawn := Or.inl (q_inT7 178 rfl rfl)
theorem ml_whichswitchlaw_210 : q_ML "WhichSwitchLaw" 210 y_w_image := Or.inl (q_inT5 24 rfl rfl)
theorem ml_whichswitchlaw_213 : q_ML "WhichSwitchLaw" 213 y_r_image := Or.inl (q_inT7 185 rfl rfl)
theorem ml_whichswitchlaw_214 : q_ML "WhichSwitchLaw" 214 y_w_back := Or.inl (q_inT5 37 rfl rfl)
theorem ml_whichswitchlaw_217 : q_ML "WhichSwitchLaw" 217 y_r_back := Or.inl (q_inT7 189 rfl rfl)
theorem ml_whichswitchlaw_218 : q_ML "WhichSwitchLaw" 218 y_w_sheet := Or.inl (q_inT5 41 rfl rfl)
theorem ml_whichswitchlaw_221 : q_ML "WhichSwitchLaw" 221 y_r_sheet := Or.inl (q_inT7 193 rfl rfl)
theorem ml_whichswitchlaw_222 : q_ML "WhichSwitchLaw" 222 y_w_cell := Or.inl (q_inT5 49 rfl rfl)
theorem ml_whichswitchlaw_225 : q_ML "WhichSwitchLaw" 225 y_r_cell := Or.inl (q_inT7 197 rfl rfl)
theorem ml_whichswitchlaw_226 : q_ML "WhichSwitchLaw" 226 y_w_copy := Or.inl (q_inT5 57 rfl rfl)
theorem ml_whichswitchlaw_230 : q_ML "WhichSwitchLaw" 230 y_r_copy := Or.inl (q_inT7 201 rfl rfl)
theorem ml_whichswitchlaw_231 : q_ML "WhichSwitchLaw" 231 y_w_lampsBy := Or.inl (q_inT5 66 rfl rfl)
theorem ml_whichswitchlaw_234 : q_ML "WhichSwitchLaw" 234 y_r_lampsBy := Or.inl (q_inT7 205 rfl rfl)
theorem ml_whichswitchlaw_235 : q_ML "WhichSwitchLaw" 235 y_w_taken := Or.inl (q_inT5 71 rfl rfl)
theorem ml_whichswitchlaw_238 : q_ML "WhichSwitchLaw" 238 y_r_taken := Or.inl (q_inT7 210 rfl rfl)
