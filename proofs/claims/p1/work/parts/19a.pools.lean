/-! what the words give of the tables; made by wip/whole/gen/tables.py -/
def x_g (w : Jvm.Cond) : Bool := w.onTables && w.keepsFace
def x_Ts : List Jvm.Cond := lw_tbl.filter x_g
theorem tl {w : Jvm.Cond} (h : w ∈ lw_tbl) (hg : x_g w = true) : w ∈ x_Ts := List.mem_filter.mpr ⟨h, hg⟩
theorem tm {w : Jvm.Cond} (i : Nat) (h : (tables_1[i]? = some w ∧ x_g w = true)) : w ∈ x_Ts := tl (List.mem_append.mpr (Or.inr (List.mem_of_getElem? h.1))) h.2
theorem ts {w : Jvm.Cond} (h : (w ∈ k2_sels lw_privs ∧ x_g w = true)) : w ∈ x_Ts := tl (List.mem_append.mpr (Or.inl h.1)) h.2
def xNames : List String := ["java/lang/RuntimeException", "java/lang/Exception"]
def x_isZ (w : Jvm.Cond) : Bool := decide (w = .laysStatic Bundle.tN "UNASSIGNED_STACK" Bundle.steD) || decide (w = .laysStatic Bundle.tN "SUPPRESSED_SENTINEL" Bundle.listD) || decide (w = .isRef (.static Bundle.tN "UNASSIGNED_STACK" Bundle.steD)) || decide (w = .isRef (.static Bundle.tN "SUPPRESSED_SENTINEL" Bundle.listD))
theorem tmz {L : List Jvm.Cond} (h : L.all (fun w => x_isZ w || (lw_tbl.contains w && x_g w)) = true) : ∀ w ∈ L, ab_isZ w ∨ w ∈ x_Ts := by
  intro w hw
  have z := List.all_eq_true.mp h w hw
  simp only [Bool.or_eq_true, Bool.and_eq_true] at z
  rcases z with z | z
  · left
    simp only [x_isZ, Bool.or_eq_true, decide_eq_true_eq] at z
    unfold ab_isZ
    rcases z with ((z | z) | z) | z
    · exact Or.inl z
    · exact Or.inr (Or.inl z)
    · exact Or.inr (Or.inr (Or.inl z))
    · exact Or.inr (Or.inr (Or.inr z))
  · right
    exact tl (by simpa using z.1) z.2
theorem tr {w : Jvm.Cond} (i : Nat) (h : tables_1[i]? = some w) : w ∈ lw_tbl := List.mem_append.mpr (Or.inr (List.mem_of_getElem? h))
def x_p7 (own : String) (x : Nat) (n : ab_N) : Prop := match n with
  | (7, _, _, .float w) => x_trms[w.toNat]? = some (.string own x) ∧ w.toNat ≠ 0 ∧ ∃ tx : String, Cond.stringRef own x tx ∈ lw_tbl
  | (4, _, _, v) => v = .float 58 ∧ Cond.fieldLink own x "java/util/ArrayList" "DEFAULTCAPACITY_EMPTY_ELEMENTDATA" "[Ljava/lang/Object;" ∈ x_Ts
  | _ => True
def x_all (own : String) (x : Nat) (n : ab_N) : Prop := ab_pe x_cl x_Ts own x n ∧ ab_pm x_Ts x_mt own x n ∧ ab_p11 x_cl x_Ts own x n ∧ ab_p4 x_cl x_aty x_Ts own x n ∧ ab_p9 x_cl x_Ts own x n ∧ x_p7 own x n
theorem xe0 : x_all "NotationReaderLaw" 8 (2, 0, 0, .null) := ⟨⟨_, rfl, tm 29 (by decide +kernel), tm 30 (by decide +kernel), tm 1 (by decide +kernel)⟩, trivial, trivial, trivial, trivial, trivial⟩
theorem xe1 : x_all "NotationReaderLaw" 50 (1, 10, 0, .null) := ⟨trivial, ⟨_, rfl, Or.inl ⟨rfl, tm 31 (by decide +kernel)⟩⟩, trivial, trivial, trivial, trivial⟩
theorem xe2 : x_all "NotationReaderLaw" 51 (2, 3, 0, .null) := ⟨⟨_, rfl, tm 629 (by decide +kernel), tm 630 (by decide +kernel), tm 7 (by decide +kernel)⟩, trivial, trivial, trivial, trivial, trivial⟩
theorem xe3 : x_all "NotationReaderLaw" 53 (1, 33, 0, .null) := ⟨trivial, ⟨_, rfl, Or.inl ⟨rfl, tm 631 (by decide +kernel)⟩⟩, trivial, trivial, trivial, trivial⟩
theorem xe4 : x_all "NotationReaderLaw" 54 (1, 1, 0, .null) := ⟨trivial, ⟨_, rfl, Or.inl ⟨rfl, tm 139 (by decide +kernel)⟩⟩, trivial, trivial, trivial, trivial⟩
theorem xe5 : x_all "NotationReaderLaw" 59 (1, 36, 2, .null) := ⟨trivial, ⟨_, rfl, Or.inr (Or.inr (Or.inl ⟨rfl, tm 754 (by decide +kernel), tm 756 (by decide +kernel)⟩))⟩, trivial, trivial, trivial, trivial⟩
theorem xe6 : x_all "NotationReaderLaw" 60 (1, 34, 2, .null) := ⟨trivial, ⟨_, rfl, Or.inr (Or.inr (Or.inl ⟨rfl, tm 750 (by decide +kernel), tm 752 (by decide +kernel)⟩))⟩, trivial, trivial, trivial, trivial⟩
theorem xe7 : x_all "NotationReaderLaw" 63 (1, 2, 0, .null) := ⟨trivial, ⟨_, rfl, Or.inl ⟨rfl, tm 219 (by decide +kernel)⟩⟩, trivial, trivial, trivial, trivial⟩
theorem xe8 : x_all "NotationReaderLaw" 66 (1, 37, 2, .null) := ⟨trivial, ⟨_, rfl, Or.inr (Or.inr (Or.inl ⟨rfl, tm 762 (by decide +kernel), tm 764 (by decide +kernel)⟩))⟩, trivial, trivial, trivial, trivial⟩
theorem xe9 : x_all "NotationReaderLaw" 67 (1, 3, 0, .null) := ⟨trivial, ⟨_, rfl, Or.inl ⟨rfl, tm 243 (by decide +kernel)⟩⟩, trivial, trivial, trivial, trivial⟩
theorem xe10 : x_all "NotationReaderLaw" 70 (1, 38, 2, .null) := ⟨trivial, ⟨_, rfl, Or.inr (Or.inr (Or.inl ⟨rfl, tm 766 (by decide +kernel), tm 768 (by decide +kernel)⟩))⟩, trivial, trivial, trivial, trivial⟩
theorem xe11 : x_all "NotationReaderLaw" 71 (1, 14, 2, .null) := ⟨trivial, ⟨_, rfl, Or.inr (Or.inr (Or.inl ⟨rfl, tm 135 (by decide +kernel), tm 137 (by decide +kernel)⟩))⟩, trivial, trivial, trivial, trivial⟩
theorem xe12 : x_all "NotationReaderLaw" 74 (1, 39, 2, .null) := ⟨trivial, ⟨_, rfl, Or.inr (Or.inr (Or.inl ⟨rfl, tm 1143 (by decide +kernel), tm 1145 (by decide +kernel)⟩))⟩, trivial, trivial, trivial, trivial⟩
theorem xe13 : x_all "NotationReaderLaw" 75 (1, 4, 0, .null) := ⟨trivial, ⟨_, rfl, Or.inl ⟨rfl, tm 539 (by decide +kernel)⟩⟩, trivial, trivial, trivial, trivial⟩
theorem xe14 : x_all "NotationReaderLaw" 78 (1, 40, 2, .null) := ⟨trivial, ⟨_, rfl, Or.inr (Or.inr (Or.inl ⟨rfl, tm 1147 (by decide +kernel), tm 1149 (by decide +kernel)⟩))⟩, trivial, trivial, trivial, trivial⟩
theorem xe15 : x_all "NotationReaderLaw" 79 (1, 5, 0, .null) := ⟨trivial, ⟨_, rfl, Or.inl ⟨rfl, tm 568 (by decide +kernel)⟩⟩, trivial, trivial, trivial, trivial⟩
theorem xe16 : x_all "NotationReaderLaw" 81 (1, 41, 2, .null) := ⟨trivial, ⟨_, rfl, Or.inr (Or.inr (Or.inl ⟨rfl, tm 1159 (by decide +kernel), tm 1161 (by decide +kernel)⟩))⟩, trivial, trivial, trivial, trivial⟩
theorem xe17 : x_all "NotationReaderLaw" 82 (1, 6, 0, .null) := ⟨trivial, ⟨_, rfl, Or.inl ⟨rfl, tm 592 (by decide +kernel)⟩⟩, trivial, trivial, trivial, trivial⟩
theorem xe18 : x_all "NotationReaderLaw" 84 (1, 42, 2, .null) := ⟨trivial, ⟨_, rfl, Or.inr (Or.inr (Or.inl ⟨rfl, tm 1163 (by decide +kernel), tm 1165 (by decide +kernel)⟩))⟩, trivial, trivial, trivial, trivial⟩
theorem xe19 : x_all "NotationReaderLaw" 85 (1, 7, 0, .null) := ⟨trivial, ⟨_, rfl, Or.inl ⟨rfl, tm 600 (by decide +kernel)⟩⟩, trivial, trivial, trivial, trivial⟩
theorem xe20 : x_all "NotationReaderLaw" 87 (1, 43, 2, .null) := ⟨trivial, ⟨_, rfl, Or.inr (Or.inr (Or.inl ⟨rfl, tm 1167 (by decide +kernel), tm 1169 (by decide +kernel)⟩))⟩, trivial, trivial, trivial, trivial⟩
theorem xe21 : x_all "NotationReaderLaw" 88 (1, 8, 0, .null) := ⟨trivial, ⟨_, rfl, Or.inl ⟨rfl, tm 609 (by decide +kernel)⟩⟩, trivial, trivial, trivial, trivial⟩
theorem xe22 : x_all "NotationReaderLaw" 90 (1, 44, 2, .null) := ⟨trivial, ⟨_, rfl, Or.inr (Or.inr (Or.inl ⟨rfl, tm 1171 (by decide +kernel), tm 1173 (by decide +kernel)⟩))⟩, trivial, trivial, trivial, trivial⟩
theorem xe23 : x_all "NotationReaderLaw" 91 (1, 9, 0, .null) := ⟨trivial, ⟨_, rfl, Or.inl ⟨rfl, tm 621 (by decide +kernel)⟩⟩, trivial, trivial, trivial, trivial⟩
theorem xe24 : x_all "NotationReaderLaw" 93 (1, 45, 2, .null) := ⟨trivial, ⟨_, rfl, Or.inr (Or.inr (Or.inl ⟨rfl, tm 1175 (by decide +kernel), tm 1177 (by decide +kernel)⟩))⟩, trivial, trivial, trivial, trivial⟩
theorem xe25 : x_all "NotationReaderLaw" 7 (1, 11, 2, .null) := ⟨trivial, ⟨_, rfl, Or.inr (Or.inr (Or.inl ⟨rfl, tm 143 (by decide +kernel), tm 145 (by decide +kernel)⟩))⟩, trivial, trivial, trivial, trivial⟩
theorem xe26 : x_all "NotationReaderLaw" 13 (11, 5, 0, .null) := ⟨trivial, trivial, ⟨by decide, _, rfl, tm 142 (by decide +kernel)⟩, trivial, trivial, trivial⟩
theorem xe27 : x_all "NotationReaderLaw" 15 (1, 12, 2, .null) := ⟨trivial, ⟨_, rfl, Or.inr (Or.inr (Or.inl ⟨rfl, tm 223 (by decide +kernel), tm 225 (by decide +kernel)⟩))⟩, trivial, trivial, trivial, trivial⟩
theorem xe28 : x_all "NotationReaderLaw" 19 (11, 6, 0, .null) := ⟨trivial, trivial, ⟨by decide, _, rfl, tm 222 (by decide +kernel)⟩, trivial, trivial, trivial⟩
theorem xe29 : x_all "NotationReaderLaw" 21 (1, 13, 2, .null) := ⟨trivial, ⟨_, rfl, Or.inr (Or.inr (Or.inl ⟨rfl, tm 247 (by decide +kernel), tm 249 (by decide +kernel)⟩))⟩, trivial, trivial, trivial, trivial⟩
theorem xe30 : x_all "NotationReaderLaw" 25 (11, 7, 0, .null) := ⟨trivial, trivial, ⟨by decide, _, rfl, tm 246 (by decide +kernel)⟩, trivial, trivial, trivial⟩
theorem xe31 : x_all "NotationReaderLaw" 27 (1, 15, 2, .null) := ⟨trivial, ⟨_, rfl, Or.inr (Or.inr (Or.inl ⟨rfl, tm 542 (by decide +kernel), tm 544 (by decide +kernel)⟩))⟩, trivial, trivial, trivial, trivial⟩
theorem xe32 : x_all "NotationReaderLaw" 31 (1, 16, 2, .null) := ⟨trivial, ⟨_, rfl, Or.inr (Or.inr (Or.inl ⟨rfl, tm 572 (by decide +kernel), tm 574 (by decide +kernel)⟩))⟩, trivial, trivial, trivial, trivial⟩
theorem xe33 : x_all "NotationReaderLaw" 34 (11, 8, 0, .null) := ⟨trivial, trivial, ⟨by decide, _, rfl, tm 571 (by decide +kernel)⟩, trivial, trivial, trivial⟩
theorem xe34 : x_all "NotationReaderLaw" 36 (1, 17, 2, .null) := ⟨trivial, ⟨_, rfl, Or.inr (Or.inr (Or.inl ⟨rfl, tm 595 (by decide +kernel), tm 597 (by decide +kernel)⟩))⟩, trivial, trivial, trivial, trivial⟩
theorem xe35 : x_all "NotationReaderLaw" 40 (1, 18, 2, .null) := ⟨trivial, ⟨_, rfl, Or.inr (Or.inr (Or.inl ⟨rfl, tm 603 (by decide +kernel), tm 605 (by decide +kernel)⟩))⟩, trivial, trivial, trivial, trivial⟩
theorem xe36 : x_all "NotationReaderLaw" 43 (1, 19, 2, .null) := ⟨trivial, ⟨_, rfl, Or.inr (Or.inr (Or.inl ⟨rfl, tm 612 (by decide +kernel), tm 614 (by decide +kernel)⟩))⟩, trivial, trivial, trivial, trivial⟩
theorem xe37 : x_all "NotationReaderLaw" 47 (1, 20, 2, .null) := ⟨trivial, ⟨_, rfl, Or.inr (Or.inr (Or.inl ⟨rfl, tm 624 (by decide +kernel), tm 626 (by decide +kernel)⟩))⟩, trivial, trivial, trivial, trivial⟩
theorem xe38 : x_all "NotationReader" 1 (5, 0, 0, .null) := ⟨trivial, ⟨tm 34 (by decide +kernel), tm 35 (by decide +kernel), tm 36 (by decide +kernel)⟩, trivial, trivial, trivial, trivial⟩
theorem xe39 : x_all "NotationReader" 7 (2, 1, 0, .null) := ⟨⟨_, rfl, tm 37 (by decide +kernel), tm 38 (by decide +kernel), tm 2 (by decide +kernel)⟩, trivial, trivial, trivial, trivial, trivial⟩
theorem xe40 : x_all "NotationReader" 9 (1, 25, 0, .null) := ⟨trivial, ⟨_, rfl, Or.inl ⟨rfl, tm 39 (by decide +kernel)⟩⟩, trivial, trivial, trivial, trivial⟩
theorem xe41 : x_all "NotationReader" 10 (0, 0, 0, .int 1) := ⟨⟨_, "NotationReader", rfl, by decide, tm 125 (by decide +kernel), Or.inl rfl, fun _ => ⟨rfl, rfl⟩⟩, trivial, trivial, trivial, trivial, trivial⟩
theorem xe42 : x_all "NotationReader" 16 (2, 4, 0, .null) := ⟨⟨_, rfl, tm 99 (by decide +kernel), tm 100 (by decide +kernel), tm 6 (by decide +kernel)⟩, trivial, trivial, trivial, trivial, trivial⟩
theorem xe43 : x_all "NotationReader" 18 (1, 52, 0, .null) := ⟨trivial, ⟨_, rfl, Or.inl ⟨rfl, tm 101 (by decide +kernel)⟩⟩, trivial, trivial, trivial, trivial⟩
theorem xe44 : x_all "NotationReader" 19 (0, 0, 1, .int 1) := ⟨⟨_, "NotationReader", rfl, by decide, tm 126 (by decide +kernel), Or.inl rfl, fun _ => ⟨rfl, rfl⟩⟩, trivial, trivial, trivial, trivial, trivial⟩
theorem xe45 : x_all "NotationReader" 23 (0, 0, 2, .null) := ⟨⟨_, "NotationReader", rfl, by decide, tm 127 (by decide +kernel), Or.inl rfl, fun h => by cases h⟩, trivial, trivial, trivial, trivial, trivial⟩
theorem xe46 : x_all "NotationReader" 27 (0, 1, 3, .null) := ⟨⟨_, "NotationReader$Tape", rfl, by decide, tm 80 (by decide +kernel), Or.inl rfl, fun h => by cases h⟩, trivial, trivial, trivial, trivial, trivial⟩
theorem xe47 : x_all "NotationReader" 30 (9, 5, 0, .null) := ⟨trivial, trivial, trivial, trivial, ⟨_, rfl, tm 147 (by decide +kernel), tm 148 (by decide +kernel), tm 11 (by decide +kernel)⟩, trivial⟩
theorem xe48 : x_all "NotationReader" 32 (7, 0, 0, .float 1) := ⟨trivial, trivial, trivial, trivial, trivial, ⟨rfl, by decide, "the tape would have more than 4096 bytes", tr 189 (by decide +kernel)⟩⟩
theorem xe49 : x_all "NotationReader" 34 (10, 5, 0, .null) := ⟨trivial, trivial, trivial, trivial, ⟨_, xNames, rfl, rfl, by decide +kernel, by decide, by decide +kernel, tmz (by decide +kernel)⟩, trivial⟩
theorem xe50 : x_all "NotationReader" 37 (1, 26, 2, .null) := ⟨trivial, ⟨_, rfl, Or.inr (Or.inr (Or.inl ⟨rfl, tm 215 (by decide +kernel), tm 217 (by decide +kernel)⟩))⟩, trivial, trivial, trivial, trivial⟩
theorem xe51 : x_all "NotationReader" 41 (9, 6, 0, .null) := ⟨trivial, trivial, trivial, trivial, ⟨_, rfl, tm 227 (by decide +kernel), tm 228 (by decide +kernel), tm 12 (by decide +kernel)⟩, trivial⟩
theorem xe52 : x_all "NotationReader" 43 (7, 0, 0, .float 2) := ⟨trivial, trivial, trivial, trivial, trivial, ⟨rfl, by decide, "the tape has no such length to keep", tr 236 (by decide +kernel)⟩⟩
theorem xe53 : x_all "NotationReader" 45 (10, 6, 0, .null) := ⟨trivial, trivial, trivial, trivial, ⟨_, xNames, rfl, rfl, by decide +kernel, by decide, by decide +kernel, tmz (by decide +kernel)⟩, trivial⟩
theorem xe54 : x_all "NotationReader" 46 (1, 53, 2, .null) := ⟨trivial, ⟨_, rfl, Or.inr (Or.inr (Or.inl ⟨rfl, tm 251 (by decide +kernel), tm 253 (by decide +kernel)⟩))⟩, trivial, trivial, trivial, trivial⟩
theorem xe55 : x_all "NotationReader" 49 (1, 27, 2, .null) := ⟨trivial, ⟨_, rfl, Or.inr (Or.inr (Or.inl ⟨rfl, tm 255 (by decide +kernel), tm 257 (by decide +kernel)⟩))⟩, trivial, trivial, trivial, trivial⟩
theorem xe56 : x_all "NotationReader" 52 (1, 22, 2, .null) := ⟨trivial, ⟨_, rfl, Or.inr (Or.inr (Or.inl ⟨rfl, tm 378 (by decide +kernel), ts (by decide +kernel)⟩))⟩, trivial, trivial, trivial, trivial⟩
theorem xe57 : x_all "NotationReader" 58 (1, 54, 2, .null) := ⟨trivial, ⟨_, rfl, Or.inr (Or.inr (Or.inl ⟨rfl, tm 507 (by decide +kernel), tm 509 (by decide +kernel)⟩))⟩, trivial, trivial, trivial, trivial⟩
theorem xe58 : x_all "NotationReader" 62 (1, 21, 2, .null) := ⟨trivial, ⟨_, rfl, Or.inr (Or.inr (Or.inl ⟨rfl, tm 546 (by decide +kernel), ts (by decide +kernel)⟩))⟩, trivial, trivial, trivial, trivial⟩
theorem xe59 : x_all "NotationReader" 80 (7, 0, 0, .float 3) := ⟨trivial, trivial, trivial, trivial, trivial, ⟨rfl, by decide, "what is 0 .. 3", tr 567 (by decide +kernel)⟩⟩
theorem xe60 : x_all "NotationReader" 82 (9, 8, 0, .null) := ⟨trivial, trivial, trivial, trivial, ⟨_, rfl, tm 576 (by decide +kernel), tm 577 (by decide +kernel), tm 28 (by decide +kernel)⟩, trivial⟩
theorem xe61 : x_all "NotationReader" 84 (7, 0, 0, .float 4) := ⟨trivial, trivial, trivial, trivial, trivial, ⟨rfl, by decide, "the node has no such part", tr 585 (by decide +kernel)⟩⟩
theorem xe62 : x_all "NotationReader" 94 (9, 7, 0, .null) := ⟨trivial, trivial, trivial, trivial, ⟨_, rfl, tm 390 (by decide +kernel), tm 391 (by decide +kernel), tm 17 (by decide +kernel)⟩, trivial⟩
theorem xe63 : x_all "NotationReader" 96 (7, 0, 0, .float 5) := ⟨trivial, trivial, trivial, trivial, trivial, ⟨rfl, by decide, "the node is no number", tr 599 (by decide +kernel)⟩⟩
theorem xe64 : x_all "NotationReader" 98 (10, 7, 0, .null) := ⟨trivial, trivial, trivial, trivial, ⟨_, xNames, rfl, rfl, by decide +kernel, by decide, by decide +kernel, tmz (by decide +kernel)⟩, trivial⟩
theorem xe65 : x_all "NotationReader" 102 (7, 0, 0, .float 6) := ⟨trivial, trivial, trivial, trivial, trivial, ⟨rfl, by decide, "the node has no such digit or byte", tr 607 (by decide +kernel)⟩⟩
theorem xe66 : x_all "NotationReader" 115 (7, 0, 0, .float 7) := ⟨trivial, trivial, trivial, trivial, trivial, ⟨rfl, by decide, "a node is no identifier", tr 620 (by decide +kernel)⟩⟩
theorem xe67 : x_all "NotationReader" 120 (7, 0, 0, .float 8) := ⟨trivial, trivial, trivial, trivial, trivial, ⟨rfl, by decide, "what is 0 or 1", tr 628 (by decide +kernel)⟩⟩
theorem xe68 : x_all "NotationReader" 122 (7, 0, 0, .float 9) := ⟨trivial, trivial, trivial, trivial, trivial, ⟨rfl, by decide, "there is no such node", tr 550 (by decide +kernel)⟩⟩
theorem xe69 : x_all "NotationReader" 124 (0, 1, 4, .null) := ⟨⟨_, "NotationReader$Tape", rfl, by decide, tm 83 (by decide +kernel), Or.inl rfl, fun h => by cases h⟩, trivial, trivial, trivial, trivial, trivial⟩
theorem xe70 : x_all "NotationReader" 128 (0, 2, 0, .null) := ⟨⟨_, "NotationReader$Token", rfl, by decide, tm 50 (by decide +kernel), Or.inl rfl, fun h => by cases h⟩, trivial, trivial, trivial, trivial, trivial⟩
theorem xe71 : x_all "NotationReader" 134 (0, 1, 5, .null) := ⟨⟨_, "NotationReader$Tape", rfl, by decide, tm 85 (by decide +kernel), Or.inl rfl, fun h => by cases h⟩, trivial, trivial, trivial, trivial, trivial⟩
theorem xe72 : x_all "NotationReader" 143 (1, 23, 0, .null) := ⟨trivial, ⟨_, rfl, Or.inl ⟨rfl, tm 516 (by decide +kernel)⟩⟩, trivial, trivial, trivial, trivial⟩
theorem xe73 : x_all "NotationReader" 150 (1, 28, 2, .null) := ⟨trivial, ⟨_, rfl, Or.inr (Or.inr (Or.inl ⟨rfl, tm 511 (by decide +kernel), tm 261 (by decide +kernel)⟩))⟩, trivial, trivial, trivial, trivial⟩
theorem xe74 : x_all "NotationReader" 153 (1, 24, 2, .null) := ⟨trivial, ⟨_, rfl, Or.inr (Or.inr (Or.inl ⟨rfl, tm 386 (by decide +kernel), ts (by decide +kernel)⟩))⟩, trivial, trivial, trivial, trivial⟩
theorem xe75 : x_all "NotationReader" 177 (0, 2, 1, .null) := ⟨⟨_, "NotationReader$Token", rfl, by decide, tm 53 (by decide +kernel), Or.inl rfl, fun h => by cases h⟩, trivial, trivial, trivial, trivial, trivial⟩
theorem xe76 : x_all "NotationReader" 178 (7, 0, 0, .float 10) := ⟨trivial, trivial, trivial, trivial, trivial, ⟨rfl, by decide, "the tape is no value", tr 399 (by decide +kernel)⟩⟩
theorem xe77 : x_all "NotationReader$Tape" 3 (5, 0, 0, .null) := ⟨trivial, ⟨tm 42 (by decide +kernel), tm 35 (by decide +kernel), tm 36 (by decide +kernel)⟩, trivial, trivial, trivial, trivial⟩
theorem xe78 : x_all "NotationReader$Tape" 9 (0, 1, 0, .int 1) := ⟨⟨_, "NotationReader$Tape", rfl, by decide, tm 77 (by decide +kernel), Or.inl rfl, fun _ => ⟨rfl, rfl⟩⟩, trivial, trivial, trivial, trivial, trivial⟩
theorem xe79 : x_all "NotationReader$Tape" 15 (0, 1, 1, .int 1) := ⟨⟨_, "NotationReader$Tape", rfl, by decide, tm 78 (by decide +kernel), Or.inl rfl, fun _ => ⟨rfl, rfl⟩⟩, trivial, trivial, trivial, trivial, trivial⟩
theorem xe80 : x_all "NotationReader$Tape" 18 (2, 2, 0, .null) := ⟨⟨_, rfl, tm 43 (by decide +kernel), tm 44 (by decide +kernel), tm 3 (by decide +kernel)⟩, trivial, trivial, trivial, trivial, trivial⟩
theorem xe81 : x_all "NotationReader$Tape" 20 (1, 31, 0, .null) := ⟨trivial, ⟨_, rfl, Or.inl ⟨rfl, tm 45 (by decide +kernel)⟩⟩, trivial, trivial, trivial, trivial⟩
theorem xe82 : x_all "NotationReader$Tape" 21 (0, 1, 4, .null) := ⟨⟨_, "NotationReader$Tape", rfl, by decide, tm 82 (by decide +kernel), Or.inl rfl, fun h => by cases h⟩, trivial, trivial, trivial, trivial, trivial⟩
theorem xe83 : x_all "NotationReader$Tape" 25 (0, 1, 5, .null) := ⟨⟨_, "NotationReader$Tape", rfl, by decide, tm 84 (by decide +kernel), Or.inl rfl, fun h => by cases h⟩, trivial, trivial, trivial, trivial, trivial⟩
theorem xe84 : x_all "NotationReader$Tape" 28 (0, 1, 3, .null) := ⟨⟨_, "NotationReader$Tape", rfl, by decide, tm 81 (by decide +kernel), Or.inl rfl, fun h => by cases h⟩, trivial, trivial, trivial, trivial, trivial⟩
theorem xe85 : x_all "NotationReader$Tape" 32 (0, 1, 2, .null) := ⟨⟨_, "NotationReader$Tape", rfl, by decide, tm 79 (by decide +kernel), Or.inl rfl, fun h => by cases h⟩, trivial, trivial, trivial, trivial, trivial⟩
theorem xe86 : x_all "NotationReader$Tape" 35 (0, 2, 2, .null) := ⟨⟨_, "NotationReader$Token", rfl, by decide, tm 55 (by decide +kernel), Or.inl rfl, fun h => by cases h⟩, trivial, trivial, trivial, trivial, trivial⟩
theorem xe87 : x_all "NotationReader$Tape" 38 (1, 28, 2, .null) := ⟨trivial, ⟨_, rfl, Or.inr (Or.inr (Or.inl ⟨rfl, tm 259 (by decide +kernel), tm 261 (by decide +kernel)⟩))⟩, trivial, trivial, trivial, trivial⟩
theorem xe88 : x_all "NotationReader$Tape" 41 (1, 29, 2, .null) := ⟨trivial, ⟨_, rfl, Or.inr (Or.inr (Or.inl ⟨rfl, tm 263 (by decide +kernel), ts (by decide +kernel)⟩))⟩, trivial, trivial, trivial, trivial⟩
theorem xe89 : x_all "NotationReader$Tape" 45 (0, 2, 1, .null) := ⟨⟨_, "NotationReader$Token", rfl, by decide, tm 52 (by decide +kernel), Or.inl rfl, fun h => by cases h⟩, trivial, trivial, trivial, trivial, trivial⟩
theorem xe90 : x_all "NotationReader$Tape" 48 (0, 2, 3, .null) := ⟨⟨_, "NotationReader$Token", rfl, by decide, tm 57 (by decide +kernel), Or.inl rfl, fun h => by cases h⟩, trivial, trivial, trivial, trivial, trivial⟩
theorem xe91 : x_all "NotationReader$Tape" 51 (0, 2, 5, .null) := ⟨⟨_, "NotationReader$Token", rfl, by decide, tm 61 (by decide +kernel), Or.inl rfl, fun h => by cases h⟩, trivial, trivial, trivial, trivial, trivial⟩
theorem xe92 : x_all "NotationReader$Tape" 55 (1, 32, 2, .null) := ⟨trivial, ⟨_, rfl, Or.inr (Or.inr (Or.inl ⟨rfl, tm 274 (by decide +kernel), tm 276 (by decide +kernel)⟩))⟩, trivial, trivial, trivial, trivial⟩
theorem xe93 : x_all "NotationReader$Tape" 59 (1, 30, 2, .null) := ⟨trivial, ⟨_, rfl, Or.inr (Or.inr (Or.inl ⟨rfl, tm 267 (by decide +kernel), ts (by decide +kernel)⟩))⟩, trivial, trivial, trivial, trivial⟩
theorem xe94 : x_all "NotationReader$Tape" 86 (0, 2, 4, .null) := ⟨⟨_, "NotationReader$Token", rfl, by decide, tm 59 (by decide +kernel), Or.inl rfl, fun h => by cases h⟩, trivial, trivial, trivial, trivial, trivial⟩
theorem xe95 : x_all "NotationReader$Token" 3 (5, 0, 0, .null) := ⟨trivial, ⟨tm 48 (by decide +kernel), tm 35 (by decide +kernel), tm 36 (by decide +kernel)⟩, trivial, trivial, trivial, trivial⟩
theorem xe96 : x_all "NotationReader$Token" 9 (0, 2, 0, .null) := ⟨⟨_, "NotationReader$Token", rfl, by decide, tm 49 (by decide +kernel), Or.inl rfl, fun h => by cases h⟩, trivial, trivial, trivial, trivial, trivial⟩
theorem xe97 : x_all "NotationReader$Token" 15 (0, 2, 2, .null) := ⟨⟨_, "NotationReader$Token", rfl, by decide, tm 54 (by decide +kernel), Or.inl rfl, fun h => by cases h⟩, trivial, trivial, trivial, trivial, trivial⟩
theorem xe98 : x_all "NotationReaderModel" 1 (5, 0, 0, .null) := ⟨trivial, ⟨tm 634 (by decide +kernel), tm 35 (by decide +kernel), tm 36 (by decide +kernel)⟩, trivial, trivial, trivial, trivial⟩
theorem xe99 : x_all "NotationReaderModel" 7 (0, 3, 1, .int 1) := ⟨⟨_, "NotationReaderModel", rfl, by decide, tm 687 (by decide +kernel), Or.inl rfl, fun _ => ⟨rfl, rfl⟩⟩, trivial, trivial, trivial, trivial, trivial⟩
theorem xe100 : x_all "NotationReaderModel" 13 (0, 3, 3, .null) := ⟨⟨_, "NotationReaderModel", rfl, by decide, tm 689 (by decide +kernel), Or.inl rfl, fun h => by cases h⟩, trivial, trivial, trivial, trivial, trivial⟩
theorem xe101 : x_all "NotationReaderModel" 17 (6, 3, 0, .null) := ⟨trivial, trivial, trivial, ⟨_, rfl, tm 635 (by decide +kernel)⟩, trivial, trivial⟩
theorem xe102 : x_all "NotationReaderModel" 19 (7, 0, 0, .float 11) := ⟨trivial, trivial, trivial, trivial, trivial, ⟨rfl, by decide, "::=", tr 637 (by decide +kernel)⟩⟩
theorem xe103 : x_all "NotationReaderModel" 21 (7, 0, 0, .float 12) := ⟨trivial, trivial, trivial, trivial, trivial, ⟨rfl, by decide, "...", tr 638 (by decide +kernel)⟩⟩
theorem xe104 : x_all "NotationReaderModel" 23 (7, 0, 0, .float 13) := ⟨trivial, trivial, trivial, trivial, trivial, ⟨rfl, by decide, "..", tr 639 (by decide +kernel)⟩⟩
theorem xe105 : x_all "NotationReaderModel" 25 (7, 0, 0, .float 14) := ⟨trivial, trivial, trivial, trivial, trivial, ⟨rfl, by decide, "{", tr 640 (by decide +kernel)⟩⟩
theorem xe106 : x_all "NotationReaderModel" 27 (7, 0, 0, .float 15) := ⟨trivial, trivial, trivial, trivial, trivial, ⟨rfl, by decide, "}", tr 641 (by decide +kernel)⟩⟩
theorem xe107 : x_all "NotationReaderModel" 29 (7, 0, 0, .float 16) := ⟨trivial, trivial, trivial, trivial, trivial, ⟨rfl, by decide, "(", tr 642 (by decide +kernel)⟩⟩
theorem xe108 : x_all "NotationReaderModel" 31 (7, 0, 0, .float 17) := ⟨trivial, trivial, trivial, trivial, trivial, ⟨rfl, by decide, ")", tr 643 (by decide +kernel)⟩⟩
theorem xe109 : x_all "NotationReaderModel" 33 (7, 0, 0, .float 18) := ⟨trivial, trivial, trivial, trivial, trivial, ⟨rfl, by decide, "[", tr 644 (by decide +kernel)⟩⟩
theorem xe110 : x_all "NotationReaderModel" 35 (7, 0, 0, .float 19) := ⟨trivial, trivial, trivial, trivial, trivial, ⟨rfl, by decide, "]", tr 645 (by decide +kernel)⟩⟩
theorem xe111 : x_all "NotationReaderModel" 37 (7, 0, 0, .float 20) := ⟨trivial, trivial, trivial, trivial, trivial, ⟨rfl, by decide, ",", tr 646 (by decide +kernel)⟩⟩
theorem xe112 : x_all "NotationReaderModel" 39 (7, 0, 0, .float 21) := ⟨trivial, trivial, trivial, trivial, trivial, ⟨rfl, by decide, ":", tr 647 (by decide +kernel)⟩⟩
theorem xe113 : x_all "NotationReaderModel" 41 (7, 0, 0, .float 22) := ⟨trivial, trivial, trivial, trivial, trivial, ⟨rfl, by decide, "-", tr 648 (by decide +kernel)⟩⟩
theorem xe114 : x_all "NotationReaderModel" 43 (0, 3, 4, .int 1) := ⟨⟨_, "NotationReaderModel", rfl, by decide, tm 690 (by decide +kernel), Or.inl rfl, fun _ => ⟨rfl, rfl⟩⟩, trivial, trivial, trivial, trivial, trivial⟩
theorem xe115 : x_all "NotationReaderModel" 47 (7, 0, 0, .float 23) := ⟨trivial, trivial, trivial, trivial, trivial, ⟨rfl, by decide, "DEFINITIONS", tr 649 (by decide +kernel)⟩⟩
theorem xe116 : x_all "NotationReaderModel" 49 (7, 0, 0, .float 24) := ⟨trivial, trivial, trivial, trivial, trivial, ⟨rfl, by decide, "EXPLICIT", tr 650 (by decide +kernel)⟩⟩
theorem xe117 : x_all "NotationReaderModel" 51 (7, 0, 0, .float 25) := ⟨trivial, trivial, trivial, trivial, trivial, ⟨rfl, by decide, "IMPLICIT", tr 651 (by decide +kernel)⟩⟩
theorem xe118 : x_all "NotationReaderModel" 53 (7, 0, 0, .float 26) := ⟨trivial, trivial, trivial, trivial, trivial, ⟨rfl, by decide, "AUTOMATIC", tr 652 (by decide +kernel)⟩⟩
theorem xe119 : x_all "NotationReaderModel" 55 (7, 0, 0, .float 27) := ⟨trivial, trivial, trivial, trivial, trivial, ⟨rfl, by decide, "TAGS", tr 653 (by decide +kernel)⟩⟩
theorem xe120 : x_all "NotationReaderModel" 57 (7, 0, 0, .float 28) := ⟨trivial, trivial, trivial, trivial, trivial, ⟨rfl, by decide, "BEGIN", tr 654 (by decide +kernel)⟩⟩
theorem xe121 : x_all "NotationReaderModel" 59 (7, 0, 0, .float 29) := ⟨trivial, trivial, trivial, trivial, trivial, ⟨rfl, by decide, "END", tr 655 (by decide +kernel)⟩⟩
theorem xe122 : x_all "NotationReaderModel" 61 (7, 0, 0, .float 30) := ⟨trivial, trivial, trivial, trivial, trivial, ⟨rfl, by decide, "UNIVERSAL", tr 656 (by decide +kernel)⟩⟩
theorem xe123 : x_all "NotationReaderModel" 63 (7, 0, 0, .float 31) := ⟨trivial, trivial, trivial, trivial, trivial, ⟨rfl, by decide, "APPLICATION", tr 657 (by decide +kernel)⟩⟩
theorem xe124 : x_all "NotationReaderModel" 65 (7, 0, 0, .float 32) := ⟨trivial, trivial, trivial, trivial, trivial, ⟨rfl, by decide, "PRIVATE", tr 658 (by decide +kernel)⟩⟩
theorem xe125 : x_all "NotationReaderModel" 67 (7, 0, 0, .float 33) := ⟨trivial, trivial, trivial, trivial, trivial, ⟨rfl, by decide, "INTEGER", tr 659 (by decide +kernel)⟩⟩
theorem xe126 : x_all "NotationReaderModel" 69 (7, 0, 0, .float 34) := ⟨trivial, trivial, trivial, trivial, trivial, ⟨rfl, by decide, "ENUMERATED", tr 660 (by decide +kernel)⟩⟩
theorem xe127 : x_all "NotationReaderModel" 71 (7, 0, 0, .float 35) := ⟨trivial, trivial, trivial, trivial, trivial, ⟨rfl, by decide, "BIT", tr 661 (by decide +kernel)⟩⟩
theorem xe128 : x_all "NotationReaderModel" 73 (7, 0, 0, .float 36) := ⟨trivial, trivial, trivial, trivial, trivial, ⟨rfl, by decide, "STRING", tr 662 (by decide +kernel)⟩⟩
theorem xe129 : x_all "NotationReaderModel" 75 (7, 0, 0, .float 37) := ⟨trivial, trivial, trivial, trivial, trivial, ⟨rfl, by decide, "OCTET", tr 663 (by decide +kernel)⟩⟩
theorem xe130 : x_all "NotationReaderModel" 77 (7, 0, 0, .float 38) := ⟨trivial, trivial, trivial, trivial, trivial, ⟨rfl, by decide, "OBJECT", tr 664 (by decide +kernel)⟩⟩
theorem xe131 : x_all "NotationReaderModel" 79 (7, 0, 0, .float 39) := ⟨trivial, trivial, trivial, trivial, trivial, ⟨rfl, by decide, "IDENTIFIER", tr 665 (by decide +kernel)⟩⟩
theorem xe132 : x_all "NotationReaderModel" 81 (7, 0, 0, .float 40) := ⟨trivial, trivial, trivial, trivial, trivial, ⟨rfl, by decide, "SEQUENCE", tr 666 (by decide +kernel)⟩⟩
theorem xe133 : x_all "NotationReaderModel" 83 (7, 0, 0, .float 41) := ⟨trivial, trivial, trivial, trivial, trivial, ⟨rfl, by decide, "SET", tr 667 (by decide +kernel)⟩⟩
theorem xe134 : x_all "NotationReaderModel" 85 (7, 0, 0, .float 42) := ⟨trivial, trivial, trivial, trivial, trivial, ⟨rfl, by decide, "OF", tr 668 (by decide +kernel)⟩⟩
theorem xe135 : x_all "NotationReaderModel" 87 (7, 0, 0, .float 43) := ⟨trivial, trivial, trivial, trivial, trivial, ⟨rfl, by decide, "CHOICE", tr 669 (by decide +kernel)⟩⟩
theorem xe136 : x_all "NotationReaderModel" 89 (7, 0, 0, .float 44) := ⟨trivial, trivial, trivial, trivial, trivial, ⟨rfl, by decide, "SIZE", tr 670 (by decide +kernel)⟩⟩
theorem xe137 : x_all "NotationReaderModel" 91 (7, 0, 0, .float 45) := ⟨trivial, trivial, trivial, trivial, trivial, ⟨rfl, by decide, "OPTIONAL", tr 671 (by decide +kernel)⟩⟩
theorem xe138 : x_all "NotationReaderModel" 93 (7, 0, 0, .float 46) := ⟨trivial, trivial, trivial, trivial, trivial, ⟨rfl, by decide, "DEFAULT", tr 672 (by decide +kernel)⟩⟩
theorem xe139 : x_all "NotationReaderModel" 95 (7, 0, 0, .float 47) := ⟨trivial, trivial, trivial, trivial, trivial, ⟨rfl, by decide, "BOOLEAN", tr 673 (by decide +kernel)⟩⟩
theorem xe140 : x_all "NotationReaderModel" 97 (7, 0, 0, .float 48) := ⟨trivial, trivial, trivial, trivial, trivial, ⟨rfl, by decide, "TRUE", tr 674 (by decide +kernel)⟩⟩
theorem xe141 : x_all "NotationReaderModel" 99 (7, 0, 0, .float 49) := ⟨trivial, trivial, trivial, trivial, trivial, ⟨rfl, by decide, "FALSE", tr 675 (by decide +kernel)⟩⟩
theorem xe142 : x_all "NotationReaderModel" 101 (7, 0, 0, .float 50) := ⟨trivial, trivial, trivial, trivial, trivial, ⟨rfl, by decide, "NULL", tr 676 (by decide +kernel)⟩⟩
theorem xe143 : x_all "NotationReaderModel" 103 (7, 0, 0, .float 51) := ⟨trivial, trivial, trivial, trivial, trivial, ⟨rfl, by decide, "MIN", tr 677 (by decide +kernel)⟩⟩
theorem xe144 : x_all "NotationReaderModel" 105 (7, 0, 0, .float 52) := ⟨trivial, trivial, trivial, trivial, trivial, ⟨rfl, by decide, "MAX", tr 678 (by decide +kernel)⟩⟩
theorem xe145 : x_all "NotationReaderModel" 107 (7, 0, 0, .float 53) := ⟨trivial, trivial, trivial, trivial, trivial, ⟨rfl, by decide, "UTF8String", tr 679 (by decide +kernel)⟩⟩
theorem xe146 : x_all "NotationReaderModel" 109 (7, 0, 0, .float 54) := ⟨trivial, trivial, trivial, trivial, trivial, ⟨rfl, by decide, "PrintableString", tr 680 (by decide +kernel)⟩⟩
theorem xe147 : x_all "NotationReaderModel" 111 (7, 0, 0, .float 55) := ⟨trivial, trivial, trivial, trivial, trivial, ⟨rfl, by decide, "IA5String", tr 681 (by decide +kernel)⟩⟩
theorem xe148 : x_all "NotationReaderModel" 113 (7, 0, 0, .float 56) := ⟨trivial, trivial, trivial, trivial, trivial, ⟨rfl, by decide, "NumericString", tr 682 (by decide +kernel)⟩⟩
theorem xe149 : x_all "NotationReaderModel" 115 (7, 0, 0, .float 57) := ⟨trivial, trivial, trivial, trivial, trivial, ⟨rfl, by decide, "VisibleString", tr 683 (by decide +kernel)⟩⟩
theorem xe150 : x_all "NotationReaderModel" 117 (0, 3, 5, .int 1) := ⟨⟨_, "NotationReaderModel", rfl, by decide, tm 691 (by decide +kernel), Or.inl rfl, fun _ => ⟨rfl, rfl⟩⟩, trivial, trivial, trivial, trivial, trivial⟩
theorem xe151 : x_all "NotationReaderModel" 120 (6, 4, 0, .null) := ⟨trivial, trivial, trivial, ⟨_, rfl, tm 684 (by decide +kernel)⟩, trivial, trivial⟩
theorem xe152 : x_all "NotationReaderModel" 122 (0, 3, 15, .null) := ⟨⟨_, "NotationReaderModel", rfl, by decide, tm 700 (by decide +kernel), Or.inl rfl, fun h => by cases h⟩, trivial, trivial, trivial, trivial, trivial⟩
theorem xe153 : x_all "NotationReaderModel" 126 (0, 3, 16, .null) := ⟨⟨_, "NotationReaderModel", rfl, by decide, tm 701 (by decide +kernel), Or.inl rfl, fun h => by cases h⟩, trivial, trivial, trivial, trivial, trivial⟩
theorem xe154 : x_all "NotationReaderModel" 130 (0, 3, 17, .null) := ⟨⟨_, "NotationReaderModel", rfl, by decide, tm 702 (by decide +kernel), Or.inl rfl, fun h => by cases h⟩, trivial, trivial, trivial, trivial, trivial⟩
theorem xe155 : x_all "NotationReaderModel" 133 (0, 3, 18, .null) := ⟨⟨_, "NotationReaderModel", rfl, by decide, tm 703 (by decide +kernel), Or.inl rfl, fun h => by cases h⟩, trivial, trivial, trivial, trivial, trivial⟩
theorem xe156 : x_all "NotationReaderModel" 136 (0, 3, 19, .null) := ⟨⟨_, "NotationReaderModel", rfl, by decide, tm 704 (by decide +kernel), Or.inl rfl, fun h => by cases h⟩, trivial, trivial, trivial, trivial, trivial⟩
theorem xe157 : x_all "NotationReaderModel" 139 (0, 3, 20, .null) := ⟨⟨_, "NotationReaderModel", rfl, by decide, tm 705 (by decide +kernel), Or.inl rfl, fun h => by cases h⟩, trivial, trivial, trivial, trivial, trivial⟩
theorem xe158 : x_all "NotationReaderModel" 142 (0, 3, 0, .null) := ⟨⟨_, "NotationReaderModel", rfl, by decide, tm 686 (by decide +kernel), Or.inl rfl, fun h => by cases h⟩, trivial, trivial, trivial, trivial, trivial⟩
theorem xe159 : x_all "NotationReaderModel" 145 (0, 3, 2, .null) := ⟨⟨_, "NotationReaderModel", rfl, by decide, tm 688 (by decide +kernel), Or.inl rfl, fun h => by cases h⟩, trivial, trivial, trivial, trivial, trivial⟩
theorem xe160 : x_all "NotationReaderModel" 308 (1, 35, 2, .null) := ⟨trivial, ⟨_, rfl, Or.inr (Or.inr (Or.inl ⟨rfl, tm 758 (by decide +kernel), ts (by decide +kernel)⟩))⟩, trivial, trivial, trivial, trivial⟩
theorem xe161 : x_all "NotationReaderModel" 148 (0, 3, 11, .null) := ⟨⟨_, "NotationReaderModel", rfl, by decide, tm 697 (by decide +kernel), Or.inl rfl, fun h => by cases h⟩, trivial, trivial, trivial, trivial, trivial⟩
theorem xe162 : x_all "NotationReaderModel" 173 (0, 3, 7, .null) := ⟨⟨_, "NotationReaderModel", rfl, by decide, tm 693 (by decide +kernel), Or.inl rfl, fun h => by cases h⟩, trivial, trivial, trivial, trivial, trivial⟩
theorem xe163 : x_all "NotationReaderModel" 176 (0, 3, 6, .null) := ⟨⟨_, "NotationReaderModel", rfl, by decide, tm 692 (by decide +kernel), Or.inl rfl, fun h => by cases h⟩, trivial, trivial, trivial, trivial, trivial⟩
theorem xe164 : x_all "NotationReaderModel" 228 (11, 6, 0, .null) := ⟨trivial, trivial, ⟨by decide, _, rfl, tm 770 (by decide +kernel)⟩, trivial, trivial, trivial⟩
theorem xe165 : x_all "NotationReaderModel" 235 (1, 51, 2, .null) := ⟨trivial, ⟨_, rfl, Or.inr (Or.inr (Or.inl ⟨rfl, tm 1097 (by decide +kernel), ts (by decide +kernel)⟩))⟩, trivial, trivial, trivial, trivial⟩
theorem xe166 : x_all "NotationReaderModel" 239 (1, 47, 2, .null) := ⟨trivial, ⟨_, rfl, Or.inr (Or.inr (Or.inl ⟨rfl, tm 771 (by decide +kernel), ts (by decide +kernel)⟩))⟩, trivial, trivial, trivial, trivial⟩
theorem xe167 : x_all "NotationReaderModel" 259 (1, 49, 2, .null) := ⟨trivial, ⟨_, rfl, Or.inr (Or.inr (Or.inl ⟨rfl, tm 1044 (by decide +kernel), ts (by decide +kernel)⟩))⟩, trivial, trivial, trivial, trivial⟩
theorem xe168 : x_all "NotationReaderModel" 267 (0, 3, 12, .null) := ⟨⟨_, "NotationReaderModel", rfl, by decide, tm 698 (by decide +kernel), Or.inl rfl, fun h => by cases h⟩, trivial, trivial, trivial, trivial, trivial⟩
theorem xe169 : x_all "NotationReaderModel" 285 (0, 3, 14, .null) := ⟨⟨_, "NotationReaderModel", rfl, by decide, tm 699 (by decide +kernel), Or.inl rfl, fun h => by cases h⟩, trivial, trivial, trivial, trivial, trivial⟩
theorem xe170 : x_all "NotationReaderModel" 311 (1, 46, 2, .null) := ⟨trivial, ⟨_, rfl, Or.inr (Or.inr (Or.inl ⟨rfl, tm 1151 (by decide +kernel), ts (by decide +kernel)⟩))⟩, trivial, trivial, trivial, trivial⟩
theorem xe171 : x_all "NotationReaderModel" 170 (1, 48, 2, .null) := ⟨trivial, ⟨_, rfl, Or.inr (Or.inr (Or.inl ⟨rfl, tm 775 (by decide +kernel), ts (by decide +kernel)⟩))⟩, trivial, trivial, trivial, trivial⟩
theorem xe172 : x_all "NotationReaderModel" 205 (0, 3, 10, .null) := ⟨⟨_, "NotationReaderModel", rfl, by decide, tm 696 (by decide +kernel), Or.inl rfl, fun h => by cases h⟩, trivial, trivial, trivial, trivial, trivial⟩
theorem xe173 : x_all "NotationReaderModel" 209 (0, 3, 8, .null) := ⟨⟨_, "NotationReaderModel", rfl, by decide, tm 694 (by decide +kernel), Or.inl rfl, fun h => by cases h⟩, trivial, trivial, trivial, trivial, trivial⟩
theorem xe174 : x_all "NotationReaderModel" 231 (1, 50, 2, .null) := ⟨trivial, ⟨_, rfl, Or.inr (Or.inr (Or.inl ⟨rfl, tm 1048 (by decide +kernel), ts (by decide +kernel)⟩))⟩, trivial, trivial, trivial, trivial⟩
theorem xe175 : x_all "NotationReaderModel" 228 (9, 6, 0, .null) := ⟨trivial, trivial, trivial, trivial, ⟨_, rfl, tm 770 (by decide +kernel), tm 228 (by decide +kernel), tm 12 (by decide +kernel)⟩, trivial⟩
theorem xe176 : x_all "NotationReaderModel" 230 (14, 6, 0, .null) := ⟨trivial, trivial, trivial, trivial, ⟨_, xNames, rfl, rfl, by decide +kernel, by decide, by decide +kernel, tmz (by decide +kernel)⟩, trivial⟩
theorem xe177 : x_all "java/util/ArrayList" 1 (1, 55, 0, .null) := ⟨trivial, ⟨_, rfl, Or.inl ⟨rfl, tm 104 (by decide +kernel)⟩⟩, trivial, trivial, trivial, trivial⟩
theorem xe178 : x_all "java/util/ArrayList" 9 (0, 4, 0, .null) := ⟨⟨_, "java/util/ArrayList", rfl, by decide, tm 113 (by decide +kernel), Or.inl rfl, fun h => by cases h⟩, trivial, trivial, trivial, trivial, trivial⟩
theorem xe179 : x_all "java/util/ArrayList" 39 (4, 0, 0, .float 58) := ⟨trivial, trivial, trivial, trivial, trivial, ⟨rfl, tm 111 (by decide +kernel)⟩⟩
theorem xe180 : x_all "java/util/ArrayList" 48 (0, 4, 1, .null) := ⟨⟨_, "java/util/ArrayList", rfl, by decide, tm 114 (by decide +kernel), Or.inl rfl, fun h => by cases h⟩, trivial, trivial, trivial, trivial, trivial⟩
theorem xe181 : x_all "java/util/ArrayList" 63 (0, 4, 2, .null) := ⟨⟨_, "java/util/ArrayList", rfl, by decide, tm 116 (by decide +kernel), Or.inr (tm 117 (by decide +kernel)), fun h => by cases h⟩, trivial, trivial, trivial, trivial, trivial⟩
theorem xe182 : x_all "java/util/AbstractList" 1 (1, 56, 0, .null) := ⟨trivial, ⟨_, rfl, Or.inl ⟨rfl, tm 107 (by decide +kernel)⟩⟩, trivial, trivial, trivial, trivial⟩
theorem xe183 : x_all "java/util/AbstractList" 7 (0, 4, 2, .null) := ⟨⟨_, "java/util/AbstractList", rfl, by decide, tm 115 (by decide +kernel), Or.inl rfl, fun h => by cases h⟩, trivial, trivial, trivial, trivial, trivial⟩
theorem xe184 : x_all "java/util/AbstractCollection" 1 (5, 0, 0, .null) := ⟨trivial, ⟨tm 110 (by decide +kernel), tm 35 (by decide +kernel), tm 36 (by decide +kernel)⟩, trivial, trivial, trivial, trivial⟩
theorem x_pool {own : String} {l : List (Nat × ab_N)} (h : ∀ q ∈ l, x_all own q.1 q.2) {x : Nat} {n : ab_N} (hx : xlk l x = some n) : x_all own x n := by
  unfold xlk at hx
  cases hf : l.find? (fun q => q.1 == x) with
  | none => rw [hf] at hx; cases hx
  | some q =>
    rw [hf] at hx
    have h2 : q.1 = x := by have z := List.find?_some hf; simpa using z
    have h3 : q.2 = n := Option.some.inj hx
    have h4 := h q (List.mem_of_find?_eq_some hf)
    rw [h2, h3] at h4
    exact h4
theorem xp0 : ∀ q ∈ xP0, x_all "NotationReaderLaw" q.1 q.2 := List.forall_mem_cons.mpr ⟨xe0, List.forall_mem_cons.mpr ⟨xe1, List.forall_mem_cons.mpr ⟨xe2, List.forall_mem_cons.mpr ⟨xe3, List.forall_mem_cons.mpr ⟨xe4, List.forall_mem_cons.mpr ⟨xe5, List.forall_mem_cons.mpr ⟨xe6, List.forall_mem_cons.mpr ⟨xe7, List.forall_mem_cons.mpr ⟨xe8, List.forall_mem_cons.mpr ⟨xe9, List.forall_mem_cons.mpr ⟨xe10, List.forall_mem_cons.mpr ⟨xe11, List.forall_mem_cons.mpr ⟨xe12, List.forall_mem_cons.mpr ⟨xe13, List.forall_mem_cons.mpr ⟨xe14, List.forall_mem_cons.mpr ⟨xe15, List.forall_mem_cons.mpr ⟨xe16, List.forall_mem_cons.mpr ⟨xe17, List.forall_mem_cons.mpr ⟨xe18, List.forall_mem_cons.mpr ⟨xe19, List.forall_mem_cons.mpr ⟨xe20, List.forall_mem_cons.mpr ⟨xe21, List.forall_mem_cons.mpr ⟨xe22, List.forall_mem_cons.mpr ⟨xe23, List.forall_mem_cons.mpr ⟨xe24, fun _ h => absurd h List.not_mem_nil⟩⟩⟩⟩⟩⟩⟩⟩⟩⟩⟩⟩⟩⟩⟩⟩⟩⟩⟩⟩⟩⟩⟩⟩⟩
theorem xp1 : ∀ q ∈ xP1, x_all "NotationReaderLaw" q.1 q.2 := List.forall_mem_cons.mpr ⟨xe25, List.forall_mem_cons.mpr ⟨xe26, fun _ h => absurd h List.not_mem_nil⟩⟩
theorem xp2 : ∀ q ∈ xP2, x_all "NotationReaderLaw" q.1 q.2 := List.forall_mem_cons.mpr ⟨xe27, List.forall_mem_cons.mpr ⟨xe28, fun _ h => absurd h List.not_mem_nil⟩⟩
theorem xp3 : ∀ q ∈ xP3, x_all "NotationReaderLaw" q.1 q.2 := List.forall_mem_cons.mpr ⟨xe29, List.forall_mem_cons.mpr ⟨xe30, fun _ h => absurd h List.not_mem_nil⟩⟩
theorem xp4 : ∀ q ∈ xP4, x_all "NotationReaderLaw" q.1 q.2 := List.forall_mem_cons.mpr ⟨xe28, List.forall_mem_cons.mpr ⟨xe31, fun _ h => absurd h List.not_mem_nil⟩⟩
theorem xp5 : ∀ q ∈ xP5, x_all "NotationReaderLaw" q.1 q.2 := List.forall_mem_cons.mpr ⟨xe28, List.forall_mem_cons.mpr ⟨xe32, List.forall_mem_cons.mpr ⟨xe33, fun _ h => absurd h List.not_mem_nil⟩⟩⟩
theorem xp6 : ∀ q ∈ xP6, x_all "NotationReaderLaw" q.1 q.2 := List.forall_mem_cons.mpr ⟨xe28, List.forall_mem_cons.mpr ⟨xe30, List.forall_mem_cons.mpr ⟨xe34, fun _ h => absurd h List.not_mem_nil⟩⟩⟩
theorem xp7 : ∀ q ∈ xP7, x_all "NotationReaderLaw" q.1 q.2 := List.forall_mem_cons.mpr ⟨xe28, List.forall_mem_cons.mpr ⟨xe33, List.forall_mem_cons.mpr ⟨xe35, fun _ h => absurd h List.not_mem_nil⟩⟩⟩
theorem xp8 : ∀ q ∈ xP8, x_all "NotationReaderLaw" q.1 q.2 := List.forall_mem_cons.mpr ⟨xe28, List.forall_mem_cons.mpr ⟨xe30, List.forall_mem_cons.mpr ⟨xe36, fun _ h => absurd h List.not_mem_nil⟩⟩⟩
theorem xp9 : ∀ q ∈ xP9, x_all "NotationReaderLaw" q.1 q.2 := List.forall_mem_cons.mpr ⟨xe28, List.forall_mem_cons.mpr ⟨xe37, fun _ h => absurd h List.not_mem_nil⟩⟩
theorem xp10 : ∀ q ∈ xP10, x_all "NotationReader" q.1 q.2 := List.forall_mem_cons.mpr ⟨xe38, List.forall_mem_cons.mpr ⟨xe39, List.forall_mem_cons.mpr ⟨xe40, List.forall_mem_cons.mpr ⟨xe41, List.forall_mem_cons.mpr ⟨xe42, List.forall_mem_cons.mpr ⟨xe43, List.forall_mem_cons.mpr ⟨xe44, List.forall_mem_cons.mpr ⟨xe45, fun _ h => absurd h List.not_mem_nil⟩⟩⟩⟩⟩⟩⟩⟩
theorem xp11 : ∀ q ∈ xP11, x_all "NotationReader" q.1 q.2 := List.forall_mem_cons.mpr ⟨xe41, List.forall_mem_cons.mpr ⟨xe46, List.forall_mem_cons.mpr ⟨xe47, List.forall_mem_cons.mpr ⟨xe48, List.forall_mem_cons.mpr ⟨xe49, List.forall_mem_cons.mpr ⟨xe50, fun _ h => absurd h List.not_mem_nil⟩⟩⟩⟩⟩⟩
theorem xp12 : ∀ q ∈ xP12, x_all "NotationReader" q.1 q.2 := List.forall_mem_cons.mpr ⟨xe41, List.forall_mem_cons.mpr ⟨xe46, List.forall_mem_cons.mpr ⟨xe51, List.forall_mem_cons.mpr ⟨xe52, List.forall_mem_cons.mpr ⟨xe53, fun _ h => absurd h List.not_mem_nil⟩⟩⟩⟩⟩
theorem xp13 : ∀ q ∈ xP13, x_all "NotationReader" q.1 q.2 := List.forall_mem_cons.mpr ⟨xe41, List.forall_mem_cons.mpr ⟨xe44, List.forall_mem_cons.mpr ⟨xe45, List.forall_mem_cons.mpr ⟨xe46, List.forall_mem_cons.mpr ⟨xe54, List.forall_mem_cons.mpr ⟨xe55, List.forall_mem_cons.mpr ⟨xe56, List.forall_mem_cons.mpr ⟨xe57, fun _ h => absurd h List.not_mem_nil⟩⟩⟩⟩⟩⟩⟩⟩
theorem xp14 : ∀ q ∈ xP14, x_all "NotationReader" q.1 q.2 := List.forall_mem_cons.mpr ⟨xe45, fun _ h => absurd h List.not_mem_nil⟩
theorem xp15 : ∀ q ∈ xP15, x_all "NotationReader" q.1 q.2 := List.forall_mem_cons.mpr ⟨xe51, List.forall_mem_cons.mpr ⟨xe53, List.forall_mem_cons.mpr ⟨xe58, List.forall_mem_cons.mpr ⟨xe59, fun _ h => absurd h List.not_mem_nil⟩⟩⟩⟩
theorem xp16 : ∀ q ∈ xP16, x_all "NotationReader" q.1 q.2 := List.forall_mem_cons.mpr ⟨xe44, List.forall_mem_cons.mpr ⟨xe57, List.forall_mem_cons.mpr ⟨xe58, List.forall_mem_cons.mpr ⟨xe60, List.forall_mem_cons.mpr ⟨xe61, fun _ h => absurd h List.not_mem_nil⟩⟩⟩⟩⟩
theorem xp17 : ∀ q ∈ xP17, x_all "NotationReader" q.1 q.2 := List.forall_mem_cons.mpr ⟨xe58, List.forall_mem_cons.mpr ⟨xe62, List.forall_mem_cons.mpr ⟨xe63, List.forall_mem_cons.mpr ⟨xe64, fun _ h => absurd h List.not_mem_nil⟩⟩⟩⟩
theorem xp18 : ∀ q ∈ xP18, x_all "NotationReader" q.1 q.2 := List.forall_mem_cons.mpr ⟨xe41, List.forall_mem_cons.mpr ⟨xe58, List.forall_mem_cons.mpr ⟨xe60, List.forall_mem_cons.mpr ⟨xe65, fun _ h => absurd h List.not_mem_nil⟩⟩⟩⟩
theorem xp19 : ∀ q ∈ xP19, x_all "NotationReader" q.1 q.2 := List.forall_mem_cons.mpr ⟨xe41, List.forall_mem_cons.mpr ⟨xe58, List.forall_mem_cons.mpr ⟨xe62, List.forall_mem_cons.mpr ⟨xe64, List.forall_mem_cons.mpr ⟨xe66, fun _ h => absurd h List.not_mem_nil⟩⟩⟩⟩⟩
theorem xp20 : ∀ q ∈ xP20, x_all "NotationReader" q.1 q.2 := List.forall_mem_cons.mpr ⟨xe41, List.forall_mem_cons.mpr ⟨xe44, List.forall_mem_cons.mpr ⟨xe46, List.forall_mem_cons.mpr ⟨xe51, List.forall_mem_cons.mpr ⟨xe53, List.forall_mem_cons.mpr ⟨xe57, List.forall_mem_cons.mpr ⟨xe67, fun _ h => absurd h List.not_mem_nil⟩⟩⟩⟩⟩⟩⟩
theorem xp21 : ∀ q ∈ xP21, x_all "NotationReader" q.1 q.2 := List.forall_mem_cons.mpr ⟨xe44, List.forall_mem_cons.mpr ⟨xe51, List.forall_mem_cons.mpr ⟨xe53, List.forall_mem_cons.mpr ⟨xe57, List.forall_mem_cons.mpr ⟨xe68, fun _ h => absurd h List.not_mem_nil⟩⟩⟩⟩⟩
theorem xp22 : ∀ q ∈ xP22, x_all "NotationReader" q.1 q.2 := List.forall_mem_cons.mpr ⟨xe41, List.forall_mem_cons.mpr ⟨xe69, List.forall_mem_cons.mpr ⟨xe70, List.forall_mem_cons.mpr ⟨xe71, List.forall_mem_cons.mpr ⟨xe72, List.forall_mem_cons.mpr ⟨xe73, List.forall_mem_cons.mpr ⟨xe74, fun _ h => absurd h List.not_mem_nil⟩⟩⟩⟩⟩⟩⟩
theorem xp23 : ∀ q ∈ xP23, x_all "NotationReader" q.1 q.2 := fun _ h => absurd h List.not_mem_nil
theorem xp24 : ∀ q ∈ xP24, x_all "NotationReader" q.1 q.2 := List.forall_mem_cons.mpr ⟨xe41, List.forall_mem_cons.mpr ⟨xe44, List.forall_mem_cons.mpr ⟨xe45, List.forall_mem_cons.mpr ⟨xe46, List.forall_mem_cons.mpr ⟨xe54, List.forall_mem_cons.mpr ⟨xe62, List.forall_mem_cons.mpr ⟨xe64, List.forall_mem_cons.mpr ⟨xe69, List.forall_mem_cons.mpr ⟨xe75, List.forall_mem_cons.mpr ⟨xe76, fun _ h => absurd h List.not_mem_nil⟩⟩⟩⟩⟩⟩⟩⟩⟩⟩
theorem xp25 : ∀ q ∈ xP25, x_all "NotationReader$Tape" q.1 q.2 := List.forall_mem_cons.mpr ⟨xe77, List.forall_mem_cons.mpr ⟨xe78, List.forall_mem_cons.mpr ⟨xe79, List.forall_mem_cons.mpr ⟨xe80, List.forall_mem_cons.mpr ⟨xe81, List.forall_mem_cons.mpr ⟨xe82, List.forall_mem_cons.mpr ⟨xe83, fun _ h => absurd h List.not_mem_nil⟩⟩⟩⟩⟩⟩⟩
theorem xp26 : ∀ q ∈ xP26, x_all "NotationReader$Tape" q.1 q.2 := List.forall_mem_cons.mpr ⟨xe78, List.forall_mem_cons.mpr ⟨xe84, fun _ h => absurd h List.not_mem_nil⟩⟩
theorem xp27 : ∀ q ∈ xP27, x_all "NotationReader$Tape" q.1 q.2 := List.forall_mem_cons.mpr ⟨xe83, List.forall_mem_cons.mpr ⟨xe85, List.forall_mem_cons.mpr ⟨xe86, List.forall_mem_cons.mpr ⟨xe87, fun _ h => absurd h List.not_mem_nil⟩⟩⟩⟩
theorem xp28 : ∀ q ∈ xP28, x_all "NotationReader$Tape" q.1 q.2 := List.forall_mem_cons.mpr ⟨xe82, List.forall_mem_cons.mpr ⟨xe83, List.forall_mem_cons.mpr ⟨xe84, List.forall_mem_cons.mpr ⟨xe85, List.forall_mem_cons.mpr ⟨xe86, List.forall_mem_cons.mpr ⟨xe88, List.forall_mem_cons.mpr ⟨xe89, List.forall_mem_cons.mpr ⟨xe90, List.forall_mem_cons.mpr ⟨xe91, List.forall_mem_cons.mpr ⟨xe92, List.forall_mem_cons.mpr ⟨xe93, List.forall_mem_cons.mpr ⟨xe94, fun _ h => absurd h List.not_mem_nil⟩⟩⟩⟩⟩⟩⟩⟩⟩⟩⟩⟩
theorem xp29 : ∀ q ∈ xP29, x_all "NotationReader$Tape" q.1 q.2 := List.forall_mem_cons.mpr ⟨xe84, List.forall_mem_cons.mpr ⟨xe93, fun _ h => absurd h List.not_mem_nil⟩⟩
theorem xp30 : ∀ q ∈ xP30, x_all "NotationReader$Tape" q.1 q.2 := List.forall_mem_cons.mpr ⟨xe78, List.forall_mem_cons.mpr ⟨xe84, fun _ h => absurd h List.not_mem_nil⟩⟩
theorem xp31 : ∀ q ∈ xP31, x_all "NotationReader$Token" q.1 q.2 := List.forall_mem_cons.mpr ⟨xe95, List.forall_mem_cons.mpr ⟨xe96, fun _ h => absurd h List.not_mem_nil⟩⟩
theorem xp32 : ∀ q ∈ xP32, x_all "NotationReader$Token" q.1 q.2 := List.forall_mem_cons.mpr ⟨xe96, List.forall_mem_cons.mpr ⟨xe97, fun _ h => absurd h List.not_mem_nil⟩⟩
theorem xp33 : ∀ q ∈ xP33, x_all "NotationReaderModel" q.1 q.2 := List.forall_mem_cons.mpr ⟨xe98, List.forall_mem_cons.mpr ⟨xe99, List.forall_mem_cons.mpr ⟨xe100, List.forall_mem_cons.mpr ⟨xe101, List.forall_mem_cons.mpr ⟨xe102, List.forall_mem_cons.mpr ⟨xe103, List.forall_mem_cons.mpr ⟨xe104, List.forall_mem_cons.mpr ⟨xe105, List.forall_mem_cons.mpr ⟨xe106, List.forall_mem_cons.mpr ⟨xe107, List.forall_mem_cons.mpr ⟨xe108, List.forall_mem_cons.mpr ⟨xe109, List.forall_mem_cons.mpr ⟨xe110, List.forall_mem_cons.mpr ⟨xe111, List.forall_mem_cons.mpr ⟨xe112, List.forall_mem_cons.mpr ⟨xe113, List.forall_mem_cons.mpr ⟨xe114, List.forall_mem_cons.mpr ⟨xe115, List.forall_mem_cons.mpr ⟨xe116, List.forall_mem_cons.mpr ⟨xe117, List.forall_mem_cons.mpr ⟨xe118, List.forall_mem_cons.mpr ⟨xe119, List.forall_mem_cons.mpr ⟨xe120, List.forall_mem_cons.mpr ⟨xe121, List.forall_mem_cons.mpr ⟨xe122, List.forall_mem_cons.mpr ⟨xe123, List.forall_mem_cons.mpr ⟨xe124, List.forall_mem_cons.mpr ⟨xe125, List.forall_mem_cons.mpr ⟨xe126, List.forall_mem_cons.mpr ⟨xe127, List.forall_mem_cons.mpr ⟨xe128, List.forall_mem_cons.mpr ⟨xe129, List.forall_mem_cons.mpr ⟨xe130, List.forall_mem_cons.mpr ⟨xe131, List.forall_mem_cons.mpr ⟨xe132, List.forall_mem_cons.mpr ⟨xe133, List.forall_mem_cons.mpr ⟨xe134, List.forall_mem_cons.mpr ⟨xe135, List.forall_mem_cons.mpr ⟨xe136, List.forall_mem_cons.mpr ⟨xe137, List.forall_mem_cons.mpr ⟨xe138, List.forall_mem_cons.mpr ⟨xe139, List.forall_mem_cons.mpr ⟨xe140, List.forall_mem_cons.mpr ⟨xe141, List.forall_mem_cons.mpr ⟨xe142, List.forall_mem_cons.mpr ⟨xe143, List.forall_mem_cons.mpr ⟨xe144, List.forall_mem_cons.mpr ⟨xe145, List.forall_mem_cons.mpr ⟨xe146, List.forall_mem_cons.mpr ⟨xe147, List.forall_mem_cons.mpr ⟨xe148, List.forall_mem_cons.mpr ⟨xe149, List.forall_mem_cons.mpr ⟨xe150, List.forall_mem_cons.mpr ⟨xe151, List.forall_mem_cons.mpr ⟨xe152, List.forall_mem_cons.mpr ⟨xe153, List.forall_mem_cons.mpr ⟨xe154, List.forall_mem_cons.mpr ⟨xe155, List.forall_mem_cons.mpr ⟨xe156, List.forall_mem_cons.mpr ⟨xe157, fun _ h => absurd h List.not_mem_nil⟩⟩⟩⟩⟩⟩⟩⟩⟩⟩⟩⟩⟩⟩⟩⟩⟩⟩⟩⟩⟩⟩⟩⟩⟩⟩⟩⟩⟩⟩⟩⟩⟩⟩⟩⟩⟩⟩⟩⟩⟩⟩⟩⟩⟩⟩⟩⟩⟩⟩⟩⟩⟩⟩⟩⟩⟩⟩⟩⟩
theorem xp34 : ∀ q ∈ xP34, x_all "NotationReaderModel" q.1 q.2 := List.forall_mem_cons.mpr ⟨xe158, fun _ h => absurd h List.not_mem_nil⟩
theorem xp35 : ∀ q ∈ xP35, x_all "NotationReaderModel" q.1 q.2 := List.forall_mem_cons.mpr ⟨xe158, fun _ h => absurd h List.not_mem_nil⟩
theorem xp36 : ∀ q ∈ xP36, x_all "NotationReaderModel" q.1 q.2 := List.forall_mem_cons.mpr ⟨xe99, List.forall_mem_cons.mpr ⟨xe158, List.forall_mem_cons.mpr ⟨xe159, List.forall_mem_cons.mpr ⟨xe160, fun _ h => absurd h List.not_mem_nil⟩⟩⟩⟩
theorem xp37 : ∀ q ∈ xP37, x_all "NotationReaderModel" q.1 q.2 := List.forall_mem_cons.mpr ⟨xe158, List.forall_mem_cons.mpr ⟨xe159, List.forall_mem_cons.mpr ⟨xe160, fun _ h => absurd h List.not_mem_nil⟩⟩⟩
theorem xp38 : ∀ q ∈ xP38, x_all "NotationReaderModel" q.1 q.2 := List.forall_mem_cons.mpr ⟨xe100, List.forall_mem_cons.mpr ⟨xe158, List.forall_mem_cons.mpr ⟨xe159, List.forall_mem_cons.mpr ⟨xe161, List.forall_mem_cons.mpr ⟨xe162, List.forall_mem_cons.mpr ⟨xe163, List.forall_mem_cons.mpr ⟨xe164, List.forall_mem_cons.mpr ⟨xe165, List.forall_mem_cons.mpr ⟨xe166, List.forall_mem_cons.mpr ⟨xe167, List.forall_mem_cons.mpr ⟨xe168, List.forall_mem_cons.mpr ⟨xe169, fun _ h => absurd h List.not_mem_nil⟩⟩⟩⟩⟩⟩⟩⟩⟩⟩⟩⟩
theorem xp39 : ∀ q ∈ xP39, x_all "NotationReaderModel" q.1 q.2 := List.forall_mem_cons.mpr ⟨xe100, List.forall_mem_cons.mpr ⟨xe158, fun _ h => absurd h List.not_mem_nil⟩⟩
theorem xp40 : ∀ q ∈ xP40, x_all "NotationReaderModel" q.1 q.2 := List.forall_mem_cons.mpr ⟨xe153, List.forall_mem_cons.mpr ⟨xe154, List.forall_mem_cons.mpr ⟨xe155, List.forall_mem_cons.mpr ⟨xe158, List.forall_mem_cons.mpr ⟨xe160, List.forall_mem_cons.mpr ⟨xe170, fun _ h => absurd h List.not_mem_nil⟩⟩⟩⟩⟩⟩
theorem xp41 : ∀ q ∈ xP41, x_all "NotationReaderModel" q.1 q.2 := List.forall_mem_cons.mpr ⟨xe155, List.forall_mem_cons.mpr ⟨xe156, List.forall_mem_cons.mpr ⟨xe158, List.forall_mem_cons.mpr ⟨xe160, List.forall_mem_cons.mpr ⟨xe170, fun _ h => absurd h List.not_mem_nil⟩⟩⟩⟩⟩
theorem xp42 : ∀ q ∈ xP42, x_all "NotationReaderModel" q.1 q.2 := List.forall_mem_cons.mpr ⟨xe152, List.forall_mem_cons.mpr ⟨xe153, List.forall_mem_cons.mpr ⟨xe158, List.forall_mem_cons.mpr ⟨xe160, List.forall_mem_cons.mpr ⟨xe170, fun _ h => absurd h List.not_mem_nil⟩⟩⟩⟩⟩
theorem xp43 : ∀ q ∈ xP43, x_all "NotationReaderModel" q.1 q.2 := List.forall_mem_cons.mpr ⟨xe152, List.forall_mem_cons.mpr ⟨xe158, List.forall_mem_cons.mpr ⟨xe160, List.forall_mem_cons.mpr ⟨xe170, fun _ h => absurd h List.not_mem_nil⟩⟩⟩⟩
theorem xp44 : ∀ q ∈ xP44, x_all "NotationReaderModel" q.1 q.2 := List.forall_mem_cons.mpr ⟨xe157, List.forall_mem_cons.mpr ⟨xe158, List.forall_mem_cons.mpr ⟨xe160, List.forall_mem_cons.mpr ⟨xe170, fun _ h => absurd h List.not_mem_nil⟩⟩⟩⟩
theorem xp45 : ∀ q ∈ xP45, x_all "NotationReaderModel" q.1 q.2 := List.forall_mem_cons.mpr ⟨xe158, List.forall_mem_cons.mpr ⟨xe159, List.forall_mem_cons.mpr ⟨xe169, List.forall_mem_cons.mpr ⟨xe160, fun _ h => absurd h List.not_mem_nil⟩⟩⟩⟩
theorem xp46 : ∀ q ∈ xP46, x_all "NotationReaderModel" q.1 q.2 := List.forall_mem_cons.mpr ⟨xe169, fun _ h => absurd h List.not_mem_nil⟩
theorem xp47 : ∀ q ∈ xP47, x_all "NotationReaderModel" q.1 q.2 := List.forall_mem_cons.mpr ⟨xe114, List.forall_mem_cons.mpr ⟨xe159, List.forall_mem_cons.mpr ⟨xe161, List.forall_mem_cons.mpr ⟨xe171, List.forall_mem_cons.mpr ⟨xe162, List.forall_mem_cons.mpr ⟨xe163, List.forall_mem_cons.mpr ⟨xe172, List.forall_mem_cons.mpr ⟨xe173, fun _ h => absurd h List.not_mem_nil⟩⟩⟩⟩⟩⟩⟩⟩
theorem xp48 : ∀ q ∈ xP48, x_all "NotationReaderModel" q.1 q.2 := List.forall_mem_cons.mpr ⟨xe159, List.forall_mem_cons.mpr ⟨xe161, fun _ h => absurd h List.not_mem_nil⟩⟩
theorem xp49 : ∀ q ∈ xP49, x_all "NotationReaderModel" q.1 q.2 := List.forall_mem_cons.mpr ⟨xe105, List.forall_mem_cons.mpr ⟨xe106, List.forall_mem_cons.mpr ⟨xe112, List.forall_mem_cons.mpr ⟨xe113, List.forall_mem_cons.mpr ⟨xe140, List.forall_mem_cons.mpr ⟨xe141, List.forall_mem_cons.mpr ⟨xe142, List.forall_mem_cons.mpr ⟨xe162, List.forall_mem_cons.mpr ⟨xe163, List.forall_mem_cons.mpr ⟨xe172, List.forall_mem_cons.mpr ⟨xe174, List.forall_mem_cons.mpr ⟨xe165, List.forall_mem_cons.mpr ⟨xe166, List.forall_mem_cons.mpr ⟨xe167, List.forall_mem_cons.mpr ⟨xe168, fun _ h => absurd h List.not_mem_nil⟩⟩⟩⟩⟩⟩⟩⟩⟩⟩⟩⟩⟩⟩⟩
theorem xp50 : ∀ q ∈ xP50, x_all "NotationReaderModel" q.1 q.2 := List.forall_mem_cons.mpr ⟨xe163, List.forall_mem_cons.mpr ⟨xe172, fun _ h => absurd h List.not_mem_nil⟩⟩
theorem xp51 : ∀ q ∈ xP51, x_all "NotationReaderModel" q.1 q.2 := List.forall_mem_cons.mpr ⟨xe175, List.forall_mem_cons.mpr ⟨xe176, fun _ h => absurd h List.not_mem_nil⟩⟩
theorem xp52 : ∀ q ∈ xP52, x_all "java/util/ArrayList" q.1 q.2 := List.forall_mem_cons.mpr ⟨xe177, List.forall_mem_cons.mpr ⟨xe178, List.forall_mem_cons.mpr ⟨xe179, fun _ h => absurd h List.not_mem_nil⟩⟩⟩
theorem xp53 : ∀ q ∈ xP53, x_all "java/util/ArrayList" q.1 q.2 := List.forall_mem_cons.mpr ⟨xe178, List.forall_mem_cons.mpr ⟨xe180, List.forall_mem_cons.mpr ⟨xe181, fun _ h => absurd h List.not_mem_nil⟩⟩⟩
theorem xp54 : ∀ q ∈ xP54, x_all "java/util/ArrayList" q.1 q.2 := List.forall_mem_cons.mpr ⟨xe180, fun _ h => absurd h List.not_mem_nil⟩
theorem xp55 : ∀ q ∈ xP55, x_all "java/util/AbstractList" q.1 q.2 := List.forall_mem_cons.mpr ⟨xe182, List.forall_mem_cons.mpr ⟨xe183, fun _ h => absurd h List.not_mem_nil⟩⟩
theorem xp56 : ∀ q ∈ xP56, x_all "java/util/AbstractCollection" q.1 q.2 := List.forall_mem_cons.mpr ⟨xe184, fun _ h => absurd h List.not_mem_nil⟩
