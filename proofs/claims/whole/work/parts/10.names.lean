/-! NAMES: the classes, their fields, what is known of them (written by wip/gen/emit.py out of the printed tables) -/
def q_F0 : List (String × String × String × Bool) := [("WhichSwitch$Ask", "out", "I", false), ("WhichSwitch$Ask", "on", "I", false), ("WhichSwitch$Ask", "hour", "I", false), ("WhichSwitch$Ask", "rooms", "I", false), ("WhichSwitch$Ask", "seen", "I", false)]
abbrev q_T0 : u_T := fun k => q_F0.getD k ("", "", "", false)
def q_F1 : List (String × String × String × Bool) := [("WhichSwitch$Fuse", "bears", "I", false), ("WhichSwitch$Fuse", "takes", "I", false), ("WhichSwitch$Fuse", "lendsTo", "I", false)]
abbrev q_T1 : u_T := fun k => q_F1.getD k ("", "", "", false)
def q_F2 : List (String × String × String × Bool) := [("WhichSwitch$Lamp", "kind", "I", false), ("WhichSwitch$Lamp", "power", "I", false), ("WhichSwitch$Lamp", "room", "I", false), ("WhichSwitch$Lamp", "x", "I", false), ("WhichSwitch$Lamp", "y", "I", false), ("WhichSwitch$Lamp", "more", "I", false)]
abbrev q_T2 : u_T := fun k => q_F2.getD k ("", "", "", false)
def q_F3 : List (String × String × String × Bool) := [("WhichSwitch$Machine", "names", "[I", true), ("WhichSwitch$Machine", "stack", "[I", true), ("WhichSwitch$Machine", "top", "I", false)]
abbrev q_T3 : u_T := fun k => q_F3.getD k ("", "", "", false)
def q_F4 : List (String × String × String × Bool) := [("WhichSwitch$Moment", "dials", "[I", true), ("WhichSwitch$Moment", "asks", "[LWhichSwitch$Ask;", true), ("WhichSwitch$Moment", "askCount", "I", false), ("WhichSwitch$Moment", "law", "I", false)]
abbrev q_T4 : u_T := fun k => q_F4.getD k ("", "", "", false)
def q_F5 : List (String × String × String × Bool) := [("WhichSwitch$Reader", "bytes", "[I", true), ("WhichSwitch$Reader", "size", "I", false), ("WhichSwitch$Reader", "at", "I", false), ("WhichSwitch$Reader", "token", "I", false), ("WhichSwitch$Reader", "place", "I", false), ("WhichSwitch$Reader", "number", "I", false), ("WhichSwitch$Reader", "draft", "LWhichSwitch$Text;", true)]
abbrev q_T5 : u_T := fun k => q_F5.getD k ("", "", "", false)
def q_F6 : List (String × String × String × Bool) := [("WhichSwitch$Sheet", "cells", "[I", true), ("WhichSwitch$Sheet", "sort", "I", false), ("WhichSwitch$Sheet", "size", "I", false)]
abbrev q_T6 : u_T := fun k => q_F6.getD k ("", "", "", false)
def q_F7 : List (String × String × String × Bool) := [("WhichSwitch$SumSet", "words", "[J", true)]
abbrev q_T7 : u_T := fun k => q_F7.getD k ("", "", "", false)
def q_F8 : List (String × String × String × Bool) := [("WhichSwitch$Text", "steps", "[I", true), ("WhichSwitch$Text", "ends", "[I", true), ("WhichSwitch$Text", "size", "I", false), ("WhichSwitch$Text", "partCount", "I", false)]
abbrev q_T8 : u_T := fun k => q_F8.getD k ("", "", "", false)
def q_F9 : List (String × String × String × Bool) := [("WhichSwitch$Wiring", "fuseOf", "[I", true), ("WhichSwitch$Wiring", "feeds", "[I", true), ("WhichSwitch$Wiring", "year", "I", false)]
abbrev q_T9 : u_T := fun k => q_F9.getD k ("", "", "", false)
def q_F10 : List (String × String × String × Bool) := [("WhichSwitch", "fuses", "[LWhichSwitch$Fuse;", true), ("WhichSwitch", "lamps", "[LWhichSwitch$Lamp;", true), ("WhichSwitch", "houses", "[LWhichSwitch$Wiring;", true), ("WhichSwitch", "labels", "[LWhichSwitch$Wiring;", true), ("WhichSwitch", "texts", "[LWhichSwitch$Text;", true), ("WhichSwitch", "sheets", "[LWhichSwitch$Sheet;", true), ("WhichSwitch", "now", "LWhichSwitch$Moment;", true), ("WhichSwitch", "kept", "LWhichSwitch$Moment;", true), ("WhichSwitch", "reader", "LWhichSwitch$Reader;", true), ("WhichSwitch", "machine", "LWhichSwitch$Machine;", true), ("WhichSwitch", "sumSet", "LWhichSwitch$SumSet;", true), ("WhichSwitch", "shows", "[I", true), ("WhichSwitch", "said", "[I", true), ("WhichSwitch", "fuseCount", "I", false), ("WhichSwitch", "lampCount", "I", false), ("WhichSwitch", "houseCount", "I", false), ("WhichSwitch", "labelCount", "I", false), ("WhichSwitch", "textCount", "I", false), ("WhichSwitch", "imageKept", "Z", false)]
abbrev q_T10 : u_T := fun k => q_F10.getD k ("", "", "", false)
def q_F11 : List (String × String × String × Bool) := [("WhichSwitchModel", "outs", "I", false), ("WhichSwitchModel", "ons", "I", false), ("WhichSwitchModel", "hour", "I", false), ("WhichSwitchModel", "slips", "I", false), ("WhichSwitchModel", "fuses", "I", false), ("WhichSwitchModel", "bears", "[I", true), ("WhichSwitchModel", "times", "[I", true), ("WhichSwitchModel", "lamps", "I", false), ("WhichSwitchModel", "kind", "[I", true), ("WhichSwitchModel", "power", "[I", true), ("WhichSwitchModel", "roomOf", "[I", true), ("WhichSwitchModel", "switchX", "[I", true), ("WhichSwitchModel", "switchY", "[I", true), ("WhichSwitchModel", "more", "[I", true), ("WhichSwitchModel", "houses", "I", false), ("WhichSwitchModel", "fed", "[I", true), ("WhichSwitchModel", "asks", "I", false), ("WhichSwitchModel", "askOuts", "[I", true), ("WhichSwitchModel", "askOns", "[I", true), ("WhichSwitchModel", "askHour", "[I", true), ("WhichSwitchModel", "askRooms", "[I", true), ("WhichSwitchModel", "askSeen", "[I", true), ("WhichSwitchModel", "labels", "I", false), ("WhichSwitchModel", "years", "[I", true), ("WhichSwitchModel", "labelled", "[I", true), ("WhichSwitchModel", "tape", "[I", true), ("WhichSwitchModel", "taped", "I", false), ("WhichSwitchModel", "codes", "[I", true), ("WhichSwitchModel", "starts", "[I", true), ("WhichSwitchModel", "texts", "I", false), ("WhichSwitchModel", "rule", "I", false), ("WhichSwitchModel", "hasImage", "Z", false), ("WhichSwitchModel", "imageOuts", "I", false), ("WhichSwitchModel", "imageOns", "I", false), ("WhichSwitchModel", "imageHour", "I", false), ("WhichSwitchModel", "imageSlips", "I", false), ("WhichSwitchModel", "imageAsks", "I", false), ("WhichSwitchModel", "imageRule", "I", false), ("WhichSwitchModel", "imageAskOuts", "[I", true), ("WhichSwitchModel", "imageAskOns", "[I", true), ("WhichSwitchModel", "imageAskHour", "[I", true), ("WhichSwitchModel", "imageAskRooms", "[I", true), ("WhichSwitchModel", "imageAskSeen", "[I", true), ("WhichSwitchModel", "sheetSort", "[I", true), ("WhichSwitchModel", "sheetSize", "[I", true), ("WhichSwitchModel", "cells", "[I", true), ("WhichSwitchModel", "at", "I", false), ("WhichSwitchModel", "begun", "I", false), ("WhichSwitchModel", "token", "I", false), ("WhichSwitchModel", "value", "I", false), ("WhichSwitchModel", "words", "[J", true), ("WhichSwitchModel", "held", "[I", true), ("WhichSwitchModel", "heldMany", "I", false), ("WhichSwitchModel", "opens", "I", false), ("WhichSwitchModel", "out", "I", false), ("WhichSwitchModel", "stack", "[I", true), ("WhichSwitchModel", "named", "[I", true), ("WhichSwitchModel", "shown", "[I", true), ("WhichSwitchModel", "nextLeft", "I", false), ("WhichSwitchModel", "groups", "[I", true), ("WhichSwitchModel", "sumSeen", "[I", true), ("WhichSwitchModel", "feeds", "[I", true)]
abbrev q_T11 : u_T := fun k => q_F11.getD k ("", "", "", false)
abbrev q_cl : List vw_C := [("WhichSwitch$Ask", q_T0, 5), ("WhichSwitch$Fuse", q_T1, 3), ("WhichSwitch$Lamp", q_T2, 6), ("WhichSwitch$Machine", q_T3, 3), ("WhichSwitch$Moment", q_T4, 4), ("WhichSwitch$Reader", q_T5, 7), ("WhichSwitch$Sheet", q_T6, 3), ("WhichSwitch$SumSet", q_T7, 1), ("WhichSwitch$Text", q_T8, 4), ("WhichSwitch$Wiring", q_T9, 3), ("WhichSwitch", q_T10, 19), ("WhichSwitchModel", q_T11, 62)]
def q_G (tys : List (ClassId × FieldType)) (ad : Nat → Nat) (b0 : Nat) : Prop := (∀ o, o < 100000 → ad o = b0 + o) ∧ q_ty tys
theorem q_m1 {w : Cond} (h : w ∈ tables_1_1) : w ∈ tables_1 := List.mem_append_left _ h
theorem q_inT1 {w : Cond} (i : Nat) (h : tables_1_1[i]? = some w) (hg : goodWord w = true) : w ∈ q_tb := List.mem_filter.mpr ⟨List.mem_append_right _ (q_m1 (List.mem_of_getElem? h)), hg⟩
theorem q_inN1 {w : Cond} (i : Nat) (h : tables_1_1[i]? = some w) (hg : q_isN w = true) : w ∈ q_nest := List.mem_filter.mpr ⟨q_m1 (List.mem_of_getElem? h), hg⟩
theorem q_m2 {w : Cond} (h : w ∈ tables_1_2) : w ∈ tables_1 := List.mem_append_right _ (List.mem_append_left _ h)
theorem q_inT2 {w : Cond} (i : Nat) (h : tables_1_2[i]? = some w) (hg : goodWord w = true) : w ∈ q_tb := List.mem_filter.mpr ⟨List.mem_append_right _ (q_m2 (List.mem_of_getElem? h)), hg⟩
theorem q_inN2 {w : Cond} (i : Nat) (h : tables_1_2[i]? = some w) (hg : q_isN w = true) : w ∈ q_nest := List.mem_filter.mpr ⟨q_m2 (List.mem_of_getElem? h), hg⟩
theorem q_m3 {w : Cond} (h : w ∈ tables_1_3) : w ∈ tables_1 := List.mem_append_right _ (List.mem_append_right _ (List.mem_append_left _ h))
theorem q_inT3 {w : Cond} (i : Nat) (h : tables_1_3[i]? = some w) (hg : goodWord w = true) : w ∈ q_tb := List.mem_filter.mpr ⟨List.mem_append_right _ (q_m3 (List.mem_of_getElem? h)), hg⟩
theorem q_inN3 {w : Cond} (i : Nat) (h : tables_1_3[i]? = some w) (hg : q_isN w = true) : w ∈ q_nest := List.mem_filter.mpr ⟨q_m3 (List.mem_of_getElem? h), hg⟩
theorem q_m4 {w : Cond} (h : w ∈ tables_1_4) : w ∈ tables_1 := List.mem_append_right _ (List.mem_append_right _ (List.mem_append_right _ (List.mem_append_left _ h)))
theorem q_inT4 {w : Cond} (i : Nat) (h : tables_1_4[i]? = some w) (hg : goodWord w = true) : w ∈ q_tb := List.mem_filter.mpr ⟨List.mem_append_right _ (q_m4 (List.mem_of_getElem? h)), hg⟩
theorem q_inN4 {w : Cond} (i : Nat) (h : tables_1_4[i]? = some w) (hg : q_isN w = true) : w ∈ q_nest := List.mem_filter.mpr ⟨q_m4 (List.mem_of_getElem? h), hg⟩
theorem q_m5 {w : Cond} (h : w ∈ tables_1_5) : w ∈ tables_1 := List.mem_append_right _ (List.mem_append_right _ (List.mem_append_right _ (List.mem_append_right _ (List.mem_append_left _ h))))
theorem q_inT5 {w : Cond} (i : Nat) (h : tables_1_5[i]? = some w) (hg : goodWord w = true) : w ∈ q_tb := List.mem_filter.mpr ⟨List.mem_append_right _ (q_m5 (List.mem_of_getElem? h)), hg⟩
theorem q_inN5 {w : Cond} (i : Nat) (h : tables_1_5[i]? = some w) (hg : q_isN w = true) : w ∈ q_nest := List.mem_filter.mpr ⟨q_m5 (List.mem_of_getElem? h), hg⟩
theorem q_m6 {w : Cond} (h : w ∈ tables_1_6) : w ∈ tables_1 := List.mem_append_right _ (List.mem_append_right _ (List.mem_append_right _ (List.mem_append_right _ (List.mem_append_right _ (List.mem_append_left _ h)))))
theorem q_inT6 {w : Cond} (i : Nat) (h : tables_1_6[i]? = some w) (hg : goodWord w = true) : w ∈ q_tb := List.mem_filter.mpr ⟨List.mem_append_right _ (q_m6 (List.mem_of_getElem? h)), hg⟩
theorem q_inN6 {w : Cond} (i : Nat) (h : tables_1_6[i]? = some w) (hg : q_isN w = true) : w ∈ q_nest := List.mem_filter.mpr ⟨q_m6 (List.mem_of_getElem? h), hg⟩
theorem q_m7 {w : Cond} (h : w ∈ tables_1_7) : w ∈ tables_1 := List.mem_append_right _ (List.mem_append_right _ (List.mem_append_right _ (List.mem_append_right _ (List.mem_append_right _ (List.mem_append_right _ (h))))))
theorem q_inT7 {w : Cond} (i : Nat) (h : tables_1_7[i]? = some w) (hg : goodWord w = true) : w ∈ q_tb := List.mem_filter.mpr ⟨List.mem_append_right _ (q_m7 (List.mem_of_getElem? h)), hg⟩
theorem q_inN7 {w : Cond} (i : Nat) (h : tables_1_7[i]? = some w) (hg : q_isN w = true) : w ∈ q_nest := List.mem_filter.mpr ⟨q_m7 (List.mem_of_getElem? h), hg⟩
theorem q_mp1 {q : MethodName × Nat} (h : q ∈ lw_privs_1) : q ∈ lw_privs := List.mem_append_left _ h
theorem q_inP1 {y : MethodName} {n : Nat} (i : Nat) (h : lw_privs_1[i]? = some (y, n)) : Cond.selects y.cls y y ∈ q_tb := List.mem_filter.mpr ⟨List.mem_append_left _ (List.mem_map.mpr ⟨(y, n), q_mp1 (List.mem_of_getElem? h), rfl⟩), rfl⟩
theorem q_mp2 {q : MethodName × Nat} (h : q ∈ lw_privs_2) : q ∈ lw_privs := List.mem_append_right _ (List.mem_append_left _ h)
theorem q_inP2 {y : MethodName} {n : Nat} (i : Nat) (h : lw_privs_2[i]? = some (y, n)) : Cond.selects y.cls y y ∈ q_tb := List.mem_filter.mpr ⟨List.mem_append_left _ (List.mem_map.mpr ⟨(y, n), q_mp2 (List.mem_of_getElem? h), rfl⟩), rfl⟩
theorem q_mp3 {q : MethodName × Nat} (h : q ∈ lw_privs_3) : q ∈ lw_privs := List.mem_append_right _ (List.mem_append_right _ (List.mem_append_left _ h))
theorem q_inP3 {y : MethodName} {n : Nat} (i : Nat) (h : lw_privs_3[i]? = some (y, n)) : Cond.selects y.cls y y ∈ q_tb := List.mem_filter.mpr ⟨List.mem_append_left _ (List.mem_map.mpr ⟨(y, n), q_mp3 (List.mem_of_getElem? h), rfl⟩), rfl⟩
theorem q_mp4 {q : MethodName × Nat} (h : q ∈ lw_privs_4) : q ∈ lw_privs := List.mem_append_right _ (List.mem_append_right _ (List.mem_append_right _ (List.mem_append_left _ h)))
theorem q_inP4 {y : MethodName} {n : Nat} (i : Nat) (h : lw_privs_4[i]? = some (y, n)) : Cond.selects y.cls y y ∈ q_tb := List.mem_filter.mpr ⟨List.mem_append_left _ (List.mem_map.mpr ⟨(y, n), q_mp4 (List.mem_of_getElem? h), rfl⟩), rfl⟩
theorem q_mp5 {q : MethodName × Nat} (h : q ∈ lw_privs_5) : q ∈ lw_privs := List.mem_append_right _ (List.mem_append_right _ (List.mem_append_right _ (List.mem_append_right _ (List.mem_append_left _ h))))
theorem q_inP5 {y : MethodName} {n : Nat} (i : Nat) (h : lw_privs_5[i]? = some (y, n)) : Cond.selects y.cls y y ∈ q_tb := List.mem_filter.mpr ⟨List.mem_append_left _ (List.mem_map.mpr ⟨(y, n), q_mp5 (List.mem_of_getElem? h), rfl⟩), rfl⟩
theorem q_mp6 {q : MethodName × Nat} (h : q ∈ lw_privs_6) : q ∈ lw_privs := List.mem_append_right _ (List.mem_append_right _ (List.mem_append_right _ (List.mem_append_right _ (List.mem_append_right _ (List.mem_append_left _ h)))))
theorem q_inP6 {y : MethodName} {n : Nat} (i : Nat) (h : lw_privs_6[i]? = some (y, n)) : Cond.selects y.cls y y ∈ q_tb := List.mem_filter.mpr ⟨List.mem_append_left _ (List.mem_map.mpr ⟨(y, n), q_mp6 (List.mem_of_getElem? h), rfl⟩), rfl⟩
theorem q_mp7 {q : MethodName × Nat} (h : q ∈ lw_privs_7) : q ∈ lw_privs := List.mem_append_right _ (List.mem_append_right _ (List.mem_append_right _ (List.mem_append_right _ (List.mem_append_right _ (List.mem_append_right _ (List.mem_append_left _ h))))))
theorem q_inP7 {y : MethodName} {n : Nat} (i : Nat) (h : lw_privs_7[i]? = some (y, n)) : Cond.selects y.cls y y ∈ q_tb := List.mem_filter.mpr ⟨List.mem_append_left _ (List.mem_map.mpr ⟨(y, n), q_mp7 (List.mem_of_getElem? h), rfl⟩), rfl⟩
theorem q_mp8 {q : MethodName × Nat} (h : q ∈ lw_privs_8) : q ∈ lw_privs := List.mem_append_right _ (List.mem_append_right _ (List.mem_append_right _ (List.mem_append_right _ (List.mem_append_right _ (List.mem_append_right _ (List.mem_append_right _ (h)))))))
theorem q_inP8 {y : MethodName} {n : Nat} (i : Nat) (h : lw_privs_8[i]? = some (y, n)) : Cond.selects y.cls y y ∈ q_tb := List.mem_filter.mpr ⟨List.mem_append_left _ (List.mem_map.mpr ⟨(y, n), q_mp8 (List.mem_of_getElem? h), rfl⟩), rfl⟩
theorem q_U0 : ∀ w ∈ u_ws "WhichSwitch$Ask" q_T0 5, w ∈ q_tb := by
  intro w hw
  obtain ⟨k, hk, rfl⟩ := List.mem_map.mp hw
  have hk := List.mem_range.mp hk
  match k, hk with
  | 0, _ => exact q_inT1 63 rfl rfl
  | 1, _ => exact q_inT1 65 rfl rfl
  | 2, _ => exact q_inT1 67 rfl rfl
  | 3, _ => exact q_inT1 69 rfl rfl
  | 4, _ => exact q_inT1 71 rfl rfl
  | k + 5, hk => exact absurd hk (by omega)
theorem q_KO0 : q_CO q_cl 0 "WhichSwitch$Ask" q_T0 5 := ⟨rfl, q_U0, ⟨fun k => ([.int, .int, .int, .int, .int] : List FieldType).getD k .int, by decide +kernel⟩, by decide +kernel, by decide +kernel⟩
abbrev q_D0 : List (Option (Option Nat)) := [none, none, none, none, none]
theorem q_D0_ok : q_flok q_T0 5 q_D0 = true := by decide +kernel
theorem q_U1 : ∀ w ∈ u_ws "WhichSwitch$Fuse" q_T1 3, w ∈ q_tb := by
  intro w hw
  obtain ⟨k, hk, rfl⟩ := List.mem_map.mp hw
  have hk := List.mem_range.mp hk
  match k, hk with
  | 0, _ => exact q_inT1 178 rfl rfl
  | 1, _ => exact q_inT1 180 rfl rfl
  | 2, _ => exact q_inT1 182 rfl rfl
  | k + 3, hk => exact absurd hk (by omega)
theorem q_KO1 : q_CO q_cl 1 "WhichSwitch$Fuse" q_T1 3 := ⟨rfl, q_U1, ⟨fun k => ([.int, .int, .int] : List FieldType).getD k .int, by decide +kernel⟩, by decide +kernel, by decide +kernel⟩
abbrev q_D1 : List (Option (Option Nat)) := [none, none, none]
theorem q_D1_ok : q_flok q_T1 3 q_D1 = true := by decide +kernel
theorem q_U2 : ∀ w ∈ u_ws "WhichSwitch$Lamp" q_T2 6, w ∈ q_tb := by
  intro w hw
  obtain ⟨k, hk, rfl⟩ := List.mem_map.mp hw
  have hk := List.mem_range.mp hk
  match k, hk with
  | 0, _ => exact q_inT1 202 rfl rfl
  | 1, _ => exact q_inT1 204 rfl rfl
  | 2, _ => exact q_inT1 206 rfl rfl
  | 3, _ => exact q_inT1 208 rfl rfl
  | 4, _ => exact q_inT1 210 rfl rfl
  | 5, _ => exact q_inT1 212 rfl rfl
  | k + 6, hk => exact absurd hk (by omega)
theorem q_KO2 : q_CO q_cl 2 "WhichSwitch$Lamp" q_T2 6 := ⟨rfl, q_U2, ⟨fun k => ([.int, .int, .int, .int, .int, .int] : List FieldType).getD k .int, by decide +kernel⟩, by decide +kernel, by decide +kernel⟩
abbrev q_D2 : List (Option (Option Nat)) := [none, none, none, none, none, none]
theorem q_D2_ok : q_flok q_T2 6 q_D2 = true := by decide +kernel
theorem q_U3 : ∀ w ∈ u_ws "WhichSwitch$Machine" q_T3 3, w ∈ q_tb := by
  intro w hw
  obtain ⟨k, hk, rfl⟩ := List.mem_map.mp hw
  have hk := List.mem_range.mp hk
  match k, hk with
  | 0, _ => exact q_inT1 152 rfl rfl
  | 1, _ => exact q_inT1 154 rfl rfl
  | 2, _ => exact q_inT1 156 rfl rfl
  | k + 3, hk => exact absurd hk (by omega)
theorem q_KO3 : q_CO q_cl 3 "WhichSwitch$Machine" q_T3 3 := ⟨rfl, q_U3, ⟨fun k => ([.array .int, .array .int, .int] : List FieldType).getD k .int, by decide +kernel⟩, by decide +kernel, by decide +kernel⟩
abbrev q_D3 : List (Option (Option Nat)) := [some none, some none, none]
theorem q_D3_ok : q_flok q_T3 3 q_D3 = true := by decide +kernel
theorem q_U4 : ∀ w ∈ u_ws "WhichSwitch$Moment" q_T4 4, w ∈ q_tb := by
  intro w hw
  obtain ⟨k, hk, rfl⟩ := List.mem_map.mp hw
  have hk := List.mem_range.mp hk
  match k, hk with
  | 0, _ => exact q_inT1 83 rfl rfl
  | 1, _ => exact q_inT1 85 rfl rfl
  | 2, _ => exact q_inT1 87 rfl rfl
  | 3, _ => exact q_inT1 89 rfl rfl
  | k + 4, hk => exact absurd hk (by omega)
theorem q_KO4 : q_CO q_cl 4 "WhichSwitch$Moment" q_T4 4 := ⟨rfl, q_U4, ⟨fun k => ([.array .int, .array (.object "WhichSwitch$Ask"), .int, .int] : List FieldType).getD k .int, by decide +kernel⟩, by decide +kernel, by decide +kernel⟩
abbrev q_D4 : List (Option (Option Nat)) := [some none, some none, none, none]
theorem q_D4_ok : q_flok q_T4 4 q_D4 = true := by decide +kernel
theorem q_U5 : ∀ w ∈ u_ws "WhichSwitch$Reader" q_T5 7, w ∈ q_tb := by
  intro w hw
  obtain ⟨k, hk, rfl⟩ := List.mem_map.mp hw
  have hk := List.mem_range.mp hk
  match k, hk with
  | 0, _ => exact q_inT1 128 rfl rfl
  | 1, _ => exact q_inT1 130 rfl rfl
  | 2, _ => exact q_inT1 132 rfl rfl
  | 3, _ => exact q_inT1 134 rfl rfl
  | 4, _ => exact q_inT1 136 rfl rfl
  | 5, _ => exact q_inT1 138 rfl rfl
  | 6, _ => exact q_inT1 140 rfl rfl
  | k + 7, hk => exact absurd hk (by omega)
theorem q_KO5 : q_CO q_cl 5 "WhichSwitch$Reader" q_T5 7 := ⟨rfl, q_U5, ⟨fun k => ([.array .int, .int, .int, .int, .int, .int, .object "WhichSwitch$Text"] : List FieldType).getD k .int, by decide +kernel⟩, by decide +kernel, by decide +kernel⟩
abbrev q_D5 : List (Option (Option Nat)) := [some none, none, none, none, none, none, some none]
theorem q_D5_ok : q_flok q_T5 7 q_D5 = true := by decide +kernel
theorem q_U6 : ∀ w ∈ u_ws "WhichSwitch$Sheet" q_T6 3, w ∈ q_tb := by
  intro w hw
  obtain ⟨k, hk, rfl⟩ := List.mem_map.mp hw
  have hk := List.mem_range.mp hk
  match k, hk with
  | 0, _ => exact q_inT2 5 rfl rfl
  | 1, _ => exact q_inT2 7 rfl rfl
  | 2, _ => exact q_inT2 9 rfl rfl
  | k + 3, hk => exact absurd hk (by omega)
theorem q_KO6 : q_CO q_cl 6 "WhichSwitch$Sheet" q_T6 3 := ⟨rfl, q_U6, ⟨fun k => ([.array .int, .int, .int] : List FieldType).getD k .int, by decide +kernel⟩, by decide +kernel, by decide +kernel⟩
abbrev q_D6 : List (Option (Option Nat)) := [some none, none, none]
theorem q_D6_ok : q_flok q_T6 3 q_D6 = true := by decide +kernel
theorem q_U7 : ∀ w ∈ u_ws "WhichSwitch$SumSet" q_T7 1, w ∈ q_tb := by
  intro w hw
  obtain ⟨k, hk, rfl⟩ := List.mem_map.mp hw
  have hk := List.mem_range.mp hk
  match k, hk with
  | 0, _ => exact q_inT1 166 rfl rfl
  | k + 1, hk => exact absurd hk (by omega)
theorem q_KO7 : q_CO q_cl 7 "WhichSwitch$SumSet" q_T7 1 := ⟨rfl, q_U7, ⟨fun k => ([.array .long] : List FieldType).getD k .int, by decide +kernel⟩, by decide +kernel, by decide +kernel⟩
abbrev q_D7 : List (Option (Option Nat)) := [some none]
theorem q_D7_ok : q_flok q_T7 1 q_D7 = true := by decide +kernel
theorem q_U8 : ∀ w ∈ u_ws "WhichSwitch$Text" q_T8 4, w ∈ q_tb := by
  intro w hw
  obtain ⟨k, hk, rfl⟩ := List.mem_map.mp hw
  have hk := List.mem_range.mp hk
  match k, hk with
  | 0, _ => exact q_inT1 110 rfl rfl
  | 1, _ => exact q_inT1 112 rfl rfl
  | 2, _ => exact q_inT1 114 rfl rfl
  | 3, _ => exact q_inT1 116 rfl rfl
  | k + 4, hk => exact absurd hk (by omega)
theorem q_KO8 : q_CO q_cl 8 "WhichSwitch$Text" q_T8 4 := ⟨rfl, q_U8, ⟨fun k => ([.array .int, .array .int, .int, .int] : List FieldType).getD k .int, by decide +kernel⟩, by decide +kernel, by decide +kernel⟩
abbrev q_D8 : List (Option (Option Nat)) := [some none, some none, none, none]
theorem q_D8_ok : q_flok q_T8 4 q_D8 = true := by decide +kernel
theorem q_U9 : ∀ w ∈ u_ws "WhichSwitch$Wiring" q_T9 3, w ∈ q_tb := by
  intro w hw
  obtain ⟨k, hk, rfl⟩ := List.mem_map.mp hw
  have hk := List.mem_range.mp hk
  match k, hk with
  | 0, _ => exact q_inT1 225 rfl rfl
  | 1, _ => exact q_inT1 227 rfl rfl
  | 2, _ => exact q_inT1 229 rfl rfl
  | k + 3, hk => exact absurd hk (by omega)
theorem q_KO9 : q_CO q_cl 9 "WhichSwitch$Wiring" q_T9 3 := ⟨rfl, q_U9, ⟨fun k => ([.array .int, .array .int, .int] : List FieldType).getD k .int, by decide +kernel⟩, by decide +kernel, by decide +kernel⟩
abbrev q_D9 : List (Option (Option Nat)) := [some none, some none, none]
theorem q_D9_ok : q_flok q_T9 3 q_D9 = true := by decide +kernel
theorem q_U10 : ∀ w ∈ u_ws "WhichSwitch" q_T10 19, w ∈ q_tb := by
  intro w hw
  obtain ⟨k, hk, rfl⟩ := List.mem_map.mp hw
  have hk := List.mem_range.mp hk
  match k, hk with
  | 0, _ => exact q_inT3 3 rfl rfl
  | 1, _ => exact q_inT3 5 rfl rfl
  | 2, _ => exact q_inT3 7 rfl rfl
  | 3, _ => exact q_inT3 9 rfl rfl
  | 4, _ => exact q_inT3 11 rfl rfl
  | 5, _ => exact q_inT3 13 rfl rfl
  | 6, _ => exact q_inT3 15 rfl rfl
  | 7, _ => exact q_inT3 17 rfl rfl
  | 8, _ => exact q_inT3 19 rfl rfl
  | 9, _ => exact q_inT3 21 rfl rfl
  | 10, _ => exact q_inT3 23 rfl rfl
  | 11, _ => exact q_inT3 25 rfl rfl
  | 12, _ => exact q_inT3 27 rfl rfl
  | 13, _ => exact q_inT3 29 rfl rfl
  | 14, _ => exact q_inT3 31 rfl rfl
  | 15, _ => exact q_inT3 33 rfl rfl
  | 16, _ => exact q_inT3 35 rfl rfl
  | 17, _ => exact q_inT3 37 rfl rfl
  | 18, _ => exact q_inT3 39 rfl rfl
  | k + 19, hk => exact absurd hk (by omega)
theorem q_KO10 : q_CO q_cl 10 "WhichSwitch" q_T10 19 := ⟨rfl, q_U10, ⟨fun k => ([.array (.object "WhichSwitch$Fuse"), .array (.object "WhichSwitch$Lamp"), .array (.object "WhichSwitch$Wiring"), .array (.object "WhichSwitch$Wiring"), .array (.object "WhichSwitch$Text"), .array (.object "WhichSwitch$Sheet"), .object "WhichSwitch$Moment", .object "WhichSwitch$Moment", .object "WhichSwitch$Reader", .object "WhichSwitch$Machine", .object "WhichSwitch$SumSet", .array .int, .array .int, .int, .int, .int, .int, .int, .boolean] : List FieldType).getD k .int, by decide +kernel⟩, by decide +kernel, by decide +kernel⟩
abbrev q_D10 : List (Option (Option Nat)) := [some none, some none, some none, some none, some none, some none, some none, some none, some none, some none, some none, some none, some none, none, none, none, none, none, none]
theorem q_D10_ok : q_flok q_T10 19 q_D10 = true := by decide +kernel
theorem q_U11 : ∀ w ∈ u_ws "WhichSwitchModel" q_T11 62, w ∈ q_tb := by
  intro w hw
  obtain ⟨k, hk, rfl⟩ := List.mem_map.mp hw
  have hk := List.mem_range.mp hk
  match k, hk with
  | 0, _ => exact q_inT5 169 rfl rfl
  | 1, _ => exact q_inT5 171 rfl rfl
  | 2, _ => exact q_inT5 173 rfl rfl
  | 3, _ => exact q_inT5 175 rfl rfl
  | 4, _ => exact q_inT5 177 rfl rfl
  | 5, _ => exact q_inT5 179 rfl rfl
  | 6, _ => exact q_inT5 181 rfl rfl
  | 7, _ => exact q_inT5 183 rfl rfl
  | 8, _ => exact q_inT5 185 rfl rfl
  | 9, _ => exact q_inT5 187 rfl rfl
  | 10, _ => exact q_inT5 189 rfl rfl
  | 11, _ => exact q_inT5 191 rfl rfl
  | 12, _ => exact q_inT5 193 rfl rfl
  | 13, _ => exact q_inT5 195 rfl rfl
  | 14, _ => exact q_inT5 197 rfl rfl
  | 15, _ => exact q_inT5 199 rfl rfl
  | 16, _ => exact q_inT5 201 rfl rfl
  | 17, _ => exact q_inT5 203 rfl rfl
  | 18, _ => exact q_inT5 205 rfl rfl
  | 19, _ => exact q_inT5 207 rfl rfl
  | 20, _ => exact q_inT5 209 rfl rfl
  | 21, _ => exact q_inT5 211 rfl rfl
  | 22, _ => exact q_inT5 213 rfl rfl
  | 23, _ => exact q_inT5 215 rfl rfl
  | 24, _ => exact q_inT5 217 rfl rfl
  | 25, _ => exact q_inT5 219 rfl rfl
  | 26, _ => exact q_inT5 221 rfl rfl
  | 27, _ => exact q_inT5 223 rfl rfl
  | 28, _ => exact q_inT5 225 rfl rfl
  | 29, _ => exact q_inT5 227 rfl rfl
  | 30, _ => exact q_inT5 229 rfl rfl
  | 31, _ => exact q_inT5 231 rfl rfl
  | 32, _ => exact q_inT5 233 rfl rfl
  | 33, _ => exact q_inT5 235 rfl rfl
  | 34, _ => exact q_inT5 237 rfl rfl
  | 35, _ => exact q_inT5 239 rfl rfl
  | 36, _ => exact q_inT6 1 rfl rfl
  | 37, _ => exact q_inT6 3 rfl rfl
  | 38, _ => exact q_inT6 5 rfl rfl
  | 39, _ => exact q_inT6 7 rfl rfl
  | 40, _ => exact q_inT6 9 rfl rfl
  | 41, _ => exact q_inT6 11 rfl rfl
  | 42, _ => exact q_inT6 13 rfl rfl
  | 43, _ => exact q_inT6 15 rfl rfl
  | 44, _ => exact q_inT6 17 rfl rfl
  | 45, _ => exact q_inT6 19 rfl rfl
  | 46, _ => exact q_inT6 21 rfl rfl
  | 47, _ => exact q_inT6 23 rfl rfl
  | 48, _ => exact q_inT6 25 rfl rfl
  | 49, _ => exact q_inT6 27 rfl rfl
  | 50, _ => exact q_inT6 29 rfl rfl
  | 51, _ => exact q_inT6 31 rfl rfl
  | 52, _ => exact q_inT6 33 rfl rfl
  | 53, _ => exact q_inT6 35 rfl rfl
  | 54, _ => exact q_inT6 37 rfl rfl
  | 55, _ => exact q_inT6 39 rfl rfl
  | 56, _ => exact q_inT6 41 rfl rfl
  | 57, _ => exact q_inT6 43 rfl rfl
  | 58, _ => exact q_inT6 45 rfl rfl
  | 59, _ => exact q_inT6 47 rfl rfl
  | 60, _ => exact q_inT6 49 rfl rfl
  | 61, _ => exact q_inT6 51 rfl rfl
  | k + 62, hk => exact absurd hk (by omega)
theorem q_KO11 : q_CO q_cl 11 "WhichSwitchModel" q_T11 62 := ⟨rfl, q_U11, ⟨fun k => ([.int, .int, .int, .int, .int, .array .int, .array .int, .int, .array .int, .array .int, .array .int, .array .int, .array .int, .array .int, .int, .array .int, .int, .array .int, .array .int, .array .int, .array .int, .array .int, .int, .array .int, .array .int, .array .int, .int, .array .int, .array .int, .int, .int, .boolean, .int, .int, .int, .int, .int, .int, .array .int, .array .int, .array .int, .array .int, .array .int, .array .int, .array .int, .array .int, .int, .int, .int, .int, .array .long, .array .int, .int, .int, .int, .array .int, .array .int, .array .int, .int, .array .int, .array .int, .array .int] : List FieldType).getD k .int, by decide +kernel⟩, by decide +kernel, by decide +kernel⟩
abbrev q_D11 : List (Option (Option Nat)) := [none, none, none, none, none, some none, some none, none, some none, some none, some none, some none, some none, some none, none, some none, none, some none, some none, some none, some none, some none, none, some none, some none, some none, none, some none, some none, none, none, none, none, none, none, none, none, none, some none, some none, some none, some none, some none, some none, some none, some none, none, none, none, none, some none, some none, none, none, none, some none, some none, some none, none, some none, some none, some none]
theorem q_D11_ok : q_flok q_T11 62 q_D11 = true := by decide +kernel
def q_ini (m : q_M) : q_M := fun vs h => match vs with
  | .ref o :: as => m (.ref o :: as) h
  | _ => none
