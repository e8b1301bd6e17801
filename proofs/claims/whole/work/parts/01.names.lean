/-- the words that stay true whatever the tables have resolved since -/
def zgood : Cond → Bool
  | .stringRef .. => false
  | .laysStatic .. => false
  | .arrayClass _ => true
  | .arrayOver (.object _) => true
  | .methodLinkNest .. => true
  | .castable .. => true
  | .privateMethod .. => true
  | .declares .. => true
  | w => w.onTables && w.keeps
def ztb : List Cond := lw_tbl.filter zgood
theorem ztb_of {w : Cond} (i : Nat) (h : lw_tbl[i]? = some w) (hg : zgood w = true) : w ∈ ztb := List.mem_filter.mpr ⟨List.mem_of_getElem? h, hg⟩
theorem z_inb {ws : List Cond} (ps : List Nat) (h : ws = ps.filterMap (fun i => lw_tbl[i]?)) (hg : ws.all zgood = true) : ∀ w ∈ ws, w ∈ ztb := by
  intro w hw
  refine List.mem_filter.mpr ⟨?_, List.all_eq_true.mp hg w hw⟩
  rw [h] at hw
  obtain ⟨i, -, hi⟩ := List.mem_filterMap.mp hw
  exact List.mem_of_getElem? hi
theorem zword_at {args a2 : Array Value} {s U : State} (hW : s.WarmedH U.vm) {w : Cond} (hz : zgood w = true) (h : w.before args s = true) : w.before a2 U = true := by
  have face : w.onTables = true → w.faceAtom = true → w.before a2 U = true := fun h1 h2 => va_tabs h1 (rfl : (s.setVm U.vm).vm = U.vm) (Cond.faceAtom_setVm hW.alike w h2 h)
  cases w with
  | stringRef a b c => cases hz
  | laysStatic a b c => cases hz
  | arrayClass ty => exact word_at hW (Or.inr ⟨_, rfl⟩) h
  | arrayOver ty =>
    cases ty with
    | object C => exact va_AO.use (va_AO.moved hW.alike (va_AO.of h))
    | _ => exact word_at hW (Or.inl hz) h
  | methodLinkNest a i x y => exact va_Nw.use rfl (va_Nw.warmM hW (va_Nw.of rfl h))
  | castable a b => exact face rfl rfl
  | privateMethod a => exact face rfl rfl
  | declares a => exact face rfl rfl
  | _ => exact word_at hW (Or.inl hz) h
theorem zwords {args : Array Value} {s U : State} (hts : ∀ w ∈ ztb, w.before args s = true) (hW : s.WarmedH U.vm) (a2 : Array Value) : ∀ w ∈ ztb, w.before a2 U = true := fun w hw => zword_at hW (List.mem_filter.mp hw).2 (hts w hw)
def zR_NumberOffice : String := "NumberOffice"
def zF_NumberOffice : u_T := fun k => match k with
  | 0 => ("NumberOffice", "branches", "[LNumberOffice$Branch;", true)
  | 1 => ("NumberOffice", "office", "LNumberOffice$Office;", true)
  | _ => ("NumberOffice", "post", "Ljava/util/ArrayList;", true)
def zY_NumberOffice : Nat → FieldType := fun k => match k with
  | 0 => .array (.object "NumberOffice$Branch")
  | 1 => .object "NumberOffice$Office"
  | _ => .object "java/util/ArrayList"
theorem zN_NumberOffice : ∀ a, a < 3 → ∀ b, b < 3 → a ≠ b → (zF_NumberOffice a).2.1 ≠ (zF_NumberOffice b).2.1 := by decide +kernel
theorem zYok_NumberOffice : ∀ k, k < 3 → parseFieldDescriptor (zF_NumberOffice k).2.2.1 = some (zY_NumberOffice k) := by decide +kernel
theorem zin_NumberOffice : ∀ w ∈ u_ws zR_NumberOffice zF_NumberOffice 3, w ∈ ztb := z_inb [273, 275, 277] (by decide +kernel) (by decide +kernel)
def zR_Branch : String := "NumberOffice$Branch"
def zF_Branch : u_T := fun k => match k with
  | 0 => ("NumberOffice$Branch", "number", "I", true)
  | 1 => ("NumberOffice$Branch", "books", "[LNumberOffice$BranchSeries;", true)
  | 2 => ("NumberOffice$Branch", "latest", "LNumberOffice$Letter;", false)
  | 3 => ("NumberOffice$Branch", "waits", "Z", false)
  | 4 => ("NumberOffice$Branch", "told", "Z", false)
  | 5 => ("NumberOffice$Branch", "safeLatest", "LNumberOffice$Letter;", false)
  | 6 => ("NumberOffice$Branch", "safeWaits", "Z", false)
  | 7 => ("NumberOffice$Branch", "safeTold", "Z", false)
  | _ => ("NumberOffice$Side", "up", "Z", false)
def zY_Branch : Nat → FieldType := fun k => match k with
  | 0 => .int
  | 1 => .array (.object "NumberOffice$BranchSeries")
  | 2 => .object "NumberOffice$Letter"
  | 3 => .boolean
  | 4 => .boolean
  | 5 => .object "NumberOffice$Letter"
  | 6 => .boolean
  | 7 => .boolean
  | _ => .boolean
theorem zN_Branch : ∀ a, a < 9 → ∀ b, b < 9 → a ≠ b → (zF_Branch a).2.1 ≠ (zF_Branch b).2.1 := by decide +kernel
theorem zYok_Branch : ∀ k, k < 9 → parseFieldDescriptor (zF_Branch k).2.2.1 = some (zY_Branch k) := by decide +kernel
theorem zin_Branch : ∀ w ∈ u_ws zR_Branch zF_Branch 9, w ∈ ztb := z_inb [182, 184, 186, 188, 190, 192, 194, 196, 198] (by decide +kernel) (by decide +kernel)
def zR_BranchSeries : String := "NumberOffice$BranchSeries"
def zF_BranchSeries : u_T := fun k => match k with
  | 0 => ("NumberOffice$BranchSeries", "blocks", "Ljava/util/ArrayList;", true)
  | 1 => ("NumberOffice$BranchSeries", "events", "Ljava/util/ArrayList;", true)
  | 2 => ("NumberOffice$BranchSeries", "blocksUsedUp", "I", false)
  | 3 => ("NumberOffice$BranchSeries", "usedUpOfNextBlock", "I", false)
  | 4 => ("NumberOffice$BranchSeries", "reported", "I", false)
  | 5 => ("NumberOffice$BranchSeries", "safeBlocks", "I", false)
  | 6 => ("NumberOffice$BranchSeries", "safeEvents", "I", false)
  | 7 => ("NumberOffice$BranchSeries", "safeBlocksUsedUp", "I", false)
  | 8 => ("NumberOffice$BranchSeries", "safeUsedUpOfNextBlock", "I", false)
  | _ => ("NumberOffice$BranchSeries", "safeReported", "I", false)
def zY_BranchSeries : Nat → FieldType := fun k => match k with
  | 0 => .object "java/util/ArrayList"
  | 1 => .object "java/util/ArrayList"
  | 2 => .int
  | 3 => .int
  | 4 => .int
  | 5 => .int
  | 6 => .int
  | 7 => .int
  | 8 => .int
  | _ => .int
theorem zN_BranchSeries : ∀ a, a < 10 → ∀ b, b < 10 → a ≠ b → (zF_BranchSeries a).2.1 ≠ (zF_BranchSeries b).2.1 := by decide +kernel
theorem zYok_BranchSeries : ∀ k, k < 10 → parseFieldDescriptor (zF_BranchSeries k).2.2.1 = some (zY_BranchSeries k) := by decide +kernel
theorem zin_BranchSeries : ∀ w ∈ u_ws zR_BranchSeries zF_BranchSeries 10, w ∈ ztb := z_inb [143, 145, 147, 149, 151, 153, 155, 157, 159, 161] (by decide +kernel) (by decide +kernel)
def zR_ArrayList : String := "java/util/ArrayList"
def zF_ArrayList : u_T := fun k => match k with
  | 0 => ("java/util/ArrayList", "elementData", "[Ljava/lang/Object;", false)
  | 1 => ("java/util/ArrayList", "size", "I", false)
  | _ => ("java/util/AbstractList", "modCount", "I", false)
def zY_ArrayList : Nat → FieldType := fun k => match k with
  | 0 => .array (.object "java/lang/Object")
  | 1 => .int
  | _ => .int
theorem zN_ArrayList : ∀ a, a < 3 → ∀ b, b < 3 → a ≠ b → (zF_ArrayList a).2.1 ≠ (zF_ArrayList b).2.1 := by decide +kernel
theorem zYok_ArrayList : ∀ k, k < 3 → parseFieldDescriptor (zF_ArrayList k).2.2.1 = some (zY_ArrayList k) := by decide +kernel
theorem zin_ArrayList : ∀ w ∈ u_ws zR_ArrayList zF_ArrayList 3, w ∈ ztb := z_inb [124, 126, 128] (by decide +kernel) (by decide +kernel)
def zR_Office : String := "NumberOffice$Office"
def zF_Office : u_T := fun k => match k with
  | 0 => ("NumberOffice$Office", "books", "[LNumberOffice$SeriesBook;", true)
  | 1 => ("NumberOffice$Office", "safeBooks", "[LNumberOffice$SeriesBook;", true)
  | 2 => ("NumberOffice$Office", "struck", "[Z", true)
  | 3 => ("NumberOffice$Office", "safeStruck", "[Z", true)
  | 4 => ("NumberOffice$Office", "answers", "[LNumberOffice$Answer;", true)
  | 5 => ("NumberOffice$Office", "safeAnswers", "[LNumberOffice$Answer;", true)
  | _ => ("NumberOffice$Side", "up", "Z", false)
def zY_Office : Nat → FieldType := fun k => match k with
  | 0 => .array (.object "NumberOffice$SeriesBook")
  | 1 => .array (.object "NumberOffice$SeriesBook")
  | 2 => .array (.boolean)
  | 3 => .array (.boolean)
  | 4 => .array (.object "NumberOffice$Answer")
  | 5 => .array (.object "NumberOffice$Answer")
  | _ => .boolean
theorem zN_Office : ∀ a, a < 7 → ∀ b, b < 7 → a ≠ b → (zF_Office a).2.1 ≠ (zF_Office b).2.1 := by decide +kernel
theorem zYok_Office : ∀ k, k < 7 → parseFieldDescriptor (zF_Office k).2.2.1 = some (zY_Office k) := by decide +kernel
theorem zin_Office : ∀ w ∈ u_ws zR_Office zF_Office 7, w ∈ ztb := z_inb [253, 255, 257, 259, 261, 263, 265] (by decide +kernel) (by decide +kernel)
def zR_SeriesBook : String := "NumberOffice$SeriesBook"
def zF_SeriesBook : u_T := fun k => match k with
  | 0 => ("NumberOffice$SeriesBook", "state", "I", false)
  | 1 => ("NumberOffice$SeriesBook", "year", "I", false)
  | 2 => ("NumberOffice$SeriesBook", "given", "I", false)
  | 3 => ("NumberOffice$SeriesBook", "holders", "[I", true)
  | 4 => ("NumberOffice$SeriesBook", "fates", "[I", true)
  | 5 => ("NumberOffice$SeriesBook", "cents", "[J", true)
  | 6 => ("NumberOffice$SeriesBook", "details", "[I", true)
  | _ => ("NumberOffice$SeriesBook", "list", "Ljava/lang/String;", false)
def zY_SeriesBook : Nat → FieldType := fun k => match k with
  | 0 => .int
  | 1 => .int
  | 2 => .int
  | 3 => .array (.int)
  | 4 => .array (.int)
  | 5 => .array (.long)
  | 6 => .array (.int)
  | _ => .object "java/lang/String"
theorem zN_SeriesBook : ∀ a, a < 8 → ∀ b, b < 8 → a ≠ b → (zF_SeriesBook a).2.1 ≠ (zF_SeriesBook b).2.1 := by decide +kernel
theorem zYok_SeriesBook : ∀ k, k < 8 → parseFieldDescriptor (zF_SeriesBook k).2.2.1 = some (zY_SeriesBook k) := by decide +kernel
theorem zin_SeriesBook : ∀ w ∈ u_ws zR_SeriesBook zF_SeriesBook 8, w ∈ ztb := z_inb [225, 227, 229, 231, 233, 235, 237, 239] (by decide +kernel) (by decide +kernel)
def zR_Answer : String := "NumberOffice$Answer"
def zF_Answer : u_T := fun k => match k with
  | 0 => ("NumberOffice$Answer", "struck", "Z", true)
  | 1 => ("NumberOffice$Answer", "block", "LNumberOffice$Block;", true)
  | 2 => ("NumberOffice$Mail", "kind", "I", true)
  | 3 => ("NumberOffice$Mail", "branch", "I", true)
  | _ => ("NumberOffice$Mail", "number", "I", true)
def zY_Answer : Nat → FieldType := fun k => match k with
  | 0 => .boolean
  | 1 => .object "NumberOffice$Block"
  | 2 => .int
  | 3 => .int
  | _ => .int
theorem zN_Answer : ∀ a, a < 5 → ∀ b, b < 5 → a ≠ b → (zF_Answer a).2.1 ≠ (zF_Answer b).2.1 := by decide +kernel
theorem zYok_Answer : ∀ k, k < 5 → parseFieldDescriptor (zF_Answer k).2.2.1 = some (zY_Answer k) := by decide +kernel
theorem zin_Answer : ∀ w ∈ u_ws zR_Answer zF_Answer 5, w ∈ ztb := z_inb [504, 506, 508, 510, 512] (by decide +kernel) (by decide +kernel)
def zR_Block : String := "NumberOffice$Block"
def zF_Block : u_T := fun k => match k with
  | 0 => ("NumberOffice$Block", "first", "I", true)
  | _ => ("NumberOffice$Block", "count", "I", true)
def zY_Block : Nat → FieldType := fun k => match k with
  | 0 => .int
  | _ => .int
theorem zN_Block : ∀ a, a < 2 → ∀ b, b < 2 → a ≠ b → (zF_Block a).2.1 ≠ (zF_Block b).2.1 := by decide +kernel
theorem zYok_Block : ∀ k, k < 2 → parseFieldDescriptor (zF_Block k).2.2.1 = some (zY_Block k) := by decide +kernel
theorem zin_Block : ∀ w ∈ u_ws zR_Block zF_Block 2, w ∈ ztb := z_inb [530, 532] (by decide +kernel) (by decide +kernel)
def zR_IllegalStateException : String := "java/lang/IllegalStateException"
def zF_IllegalStateException : u_T := fun k => match k with
  | 0 => ("java/lang/Throwable", "cause", "Ljava/lang/Throwable;", false)
  | 1 => ("java/lang/Throwable", "stackTrace", "[Ljava/lang/StackTraceElement;", false)
  | 2 => ("java/lang/Throwable", "suppressedExceptions", "Ljava/util/List;", false)
  | 3 => ("java/lang/Throwable", "detailMessage", "Ljava/lang/String;", false)
  | 4 => ("java/lang/Throwable", "backtrace", "Ljava/lang/Object;", false)
  | _ => ("java/lang/Throwable", "depth", "I", false)
def zY_IllegalStateException : Nat → FieldType := fun k => match k with
  | 0 => .object "java/lang/Throwable"
  | 1 => .array (.object "java/lang/StackTraceElement")
  | 2 => .object "java/util/List"
  | 3 => .object "java/lang/String"
  | 4 => .object "java/lang/Object"
  | _ => .int
theorem zN_IllegalStateException : ∀ a, a < 6 → ∀ b, b < 6 → a ≠ b → (zF_IllegalStateException a).2.1 ≠ (zF_IllegalStateException b).2.1 := by decide +kernel
theorem zYok_IllegalStateException : ∀ k, k < 6 → parseFieldDescriptor (zF_IllegalStateException k).2.2.1 = some (zY_IllegalStateException k) := by decide +kernel
theorem zin_IllegalStateException : ∀ w ∈ u_ws zR_IllegalStateException zF_IllegalStateException 6, w ∈ ztb := z_inb [624, 626, 628, 630, 632, 674] (by decide +kernel) (by decide +kernel)
def zR_Letter : String := "NumberOffice$Letter"
def zF_Letter : u_T := fun k => match k with
  | 0 => ("NumberOffice$Letter", "series", "I", true)
  | 1 => ("NumberOffice$Letter", "wanted", "I", true)
  | 2 => ("NumberOffice$Letter", "events", "[LNumberOffice$Event;", true)
  | 3 => ("NumberOffice$Mail", "kind", "I", true)
  | 4 => ("NumberOffice$Mail", "branch", "I", true)
  | _ => ("NumberOffice$Mail", "number", "I", true)
def zY_Letter : Nat → FieldType := fun k => match k with
  | 0 => .int
  | 1 => .int
  | 2 => .array (.object "NumberOffice$Event")
  | 3 => .int
  | 4 => .int
  | _ => .int
theorem zN_Letter : ∀ a, a < 6 → ∀ b, b < 6 → a ≠ b → (zF_Letter a).2.1 ≠ (zF_Letter b).2.1 := by decide +kernel
theorem zYok_Letter : ∀ k, k < 6 → parseFieldDescriptor (zF_Letter k).2.2.1 = some (zY_Letter k) := by decide +kernel
theorem zin_Letter : ∀ w ∈ u_ws zR_Letter zF_Letter 6, w ∈ ztb := z_inb [714, 716, 718, 720, 721, 722] (by decide +kernel) (by decide +kernel)
def zR_Event : String := "NumberOffice$Event"
def zF_Event : u_T := fun k => match k with
  | 0 => ("NumberOffice$Event", "number", "I", true)
  | 1 => ("NumberOffice$Event", "used", "Z", true)
  | 2 => ("NumberOffice$Event", "cents", "J", true)
  | _ => ("NumberOffice$Event", "detail", "I", true)
def zY_Event : Nat → FieldType := fun k => match k with
  | 0 => .int
  | 1 => .boolean
  | 2 => .long
  | _ => .int
theorem zN_Event : ∀ a, a < 4 → ∀ b, b < 4 → a ≠ b → (zF_Event a).2.1 ≠ (zF_Event b).2.1 := by decide +kernel
theorem zYok_Event : ∀ k, k < 4 → parseFieldDescriptor (zF_Event k).2.2.1 = some (zY_Event k) := by decide +kernel
theorem zin_Event : ∀ w ∈ u_ws zR_Event zF_Event 4, w ∈ ztb := z_inb [782, 784, 786, 788] (by decide +kernel) (by decide +kernel)
def zR_ListText : String := "NumberOffice$ListText"
def zF_ListText : u_T := fun k => match k with
  | 0 => ("NumberOffice$ListText", "text", "Ljava/lang/StringBuilder;", true)
  | _ => ("NumberOffice$ListText", "digits", "[C", true)
def zY_ListText : Nat → FieldType := fun k => match k with
  | 0 => .object "java/lang/StringBuilder"
  | _ => .array (.char)
theorem zN_ListText : ∀ a, a < 2 → ∀ b, b < 2 → a ≠ b → (zF_ListText a).2.1 ≠ (zF_ListText b).2.1 := by decide +kernel
theorem zYok_ListText : ∀ k, k < 2 → parseFieldDescriptor (zF_ListText k).2.2.1 = some (zY_ListText k) := by decide +kernel
theorem zin_ListText : ∀ w ∈ u_ws zR_ListText zF_ListText 2, w ∈ ztb := z_inb [883, 885] (by decide +kernel) (by decide +kernel)
def zR_StringBuilder : String := "java/lang/StringBuilder"
def zF_StringBuilder : u_T := fun k => match k with
  | 0 => ("java/lang/AbstractStringBuilder", "value", "[B", false)
  | 1 => ("java/lang/AbstractStringBuilder", "coder", "B", false)
  | 2 => ("java/lang/AbstractStringBuilder", "maybeLatin1", "Z", false)
  | _ => ("java/lang/AbstractStringBuilder", "count", "I", false)
def zY_StringBuilder : Nat → FieldType := fun k => match k with
  | 0 => .array (.byte)
  | 1 => .byte
  | 2 => .boolean
  | _ => .int
theorem zN_StringBuilder : ∀ a, a < 4 → ∀ b, b < 4 → a ≠ b → (zF_StringBuilder a).2.1 ≠ (zF_StringBuilder b).2.1 := by decide +kernel
theorem zYok_StringBuilder : ∀ k, k < 4 → parseFieldDescriptor (zF_StringBuilder k).2.2.1 = some (zY_StringBuilder k) := by decide +kernel
theorem zin_StringBuilder : ∀ w ∈ u_ws zR_StringBuilder zF_StringBuilder 4, w ∈ ztb := z_inb [872, 874, 876, 878] (by decide +kernel) (by decide +kernel)
def zR_String : String := "java/lang/String"
def zF_String : u_T := fun k => match k with
  | 0 => ("java/lang/String", "value", "[B", true)
  | 1 => ("java/lang/String", "coder", "B", true)
  | 2 => ("java/lang/String", "hash", "I", false)
  | _ => ("java/lang/String", "hashIsZero", "Z", false)
def zY_String : Nat → FieldType := fun k => match k with
  | 0 => .array (.byte)
  | 1 => .byte
  | 2 => .int
  | _ => .boolean
theorem zN_String : ∀ a, a < 4 → ∀ b, b < 4 → a ≠ b → (zF_String a).2.1 ≠ (zF_String b).2.1 := by decide +kernel
theorem zYok_String : ∀ k, k < 4 → parseFieldDescriptor (zF_String k).2.2.1 = some (zY_String k) := by decide +kernel
theorem zin_String : ∀ w ∈ u_ws zR_String zF_String 4, w ∈ ztb := z_inb [1100, 1102, 1104, 1106] (by decide +kernel) (by decide +kernel)
def zR_NumberOfficeModel : String := "NumberOfficeModel"
def zF_NumberOfficeModel : u_T := fun k => match k with
  | 0 => ("NumberOfficeModel", "thrown", "I", false)
  | 1 => ("NumberOfficeModel", "branches", "I", true)
  | 2 => ("NumberOfficeModel", "down", "[Z", true)
  | 3 => ("NumberOfficeModel", "owned", "[I", true)
  | 4 => ("NumberOfficeModel", "used", "[I", true)
  | 5 => ("NumberOfficeModel", "blocks", "[I", true)
  | 6 => ("NumberOfficeModel", "events", "[I", true)
  | 7 => ("NumberOfficeModel", "reported", "[I", true)
  | 8 => ("NumberOfficeModel", "number", "[S", true)
  | 9 => ("NumberOfficeModel", "block", "[S", true)
  | 10 => ("NumberOfficeModel", "state", "[B", true)
  | 11 => ("NumberOfficeModel", "cents", "[J", true)
  | 12 => ("NumberOfficeModel", "date", "[I", true)
  | 13 => ("NumberOfficeModel", "reason", "[B", true)
  | 14 => ("NumberOfficeModel", "event", "[S", true)
  | 15 => ("NumberOfficeModel", "latest", "[I", true)
  | 16 => ("NumberOfficeModel", "kind", "[I", true)
  | 17 => ("NumberOfficeModel", "about", "[I", true)
  | 18 => ("NumberOfficeModel", "much", "[I", true)
  | 19 => ("NumberOfficeModel", "waits", "[Z", true)
  | 20 => ("NumberOfficeModel", "told", "[Z", true)
  | 21 => ("NumberOfficeModel", "open", "[I", true)
  | 22 => ("NumberOfficeModel", "year", "[I", true)
  | 23 => ("NumberOfficeModel", "given", "[I", true)
  | 24 => ("NumberOfficeModel", "fate", "[B", true)
  | 25 => ("NumberOfficeModel", "holder", "[B", true)
  | 26 => ("NumberOfficeModel", "paid", "[J", true)
  | 27 => ("NumberOfficeModel", "day", "[I", true)
  | 28 => ("NumberOfficeModel", "why", "[B", true)
  | 29 => ("NumberOfficeModel", "struck", "[Z", true)
  | 30 => ("NumberOfficeModel", "taken", "[I", true)
  | 31 => ("NumberOfficeModel", "answer", "[I", true)
  | 32 => ("NumberOfficeModel", "first", "[I", true)
  | 33 => ("NumberOfficeModel", "many", "[I", true)
  | 34 => ("NumberOfficeModel", "letters", "I", false)
  | 35 => ("NumberOfficeModel", "post", "[I", true)
  | 36 => ("NumberOfficeModel", "coming", "[I", true)
  | 37 => ("NumberOfficeModel", "wanted", "I", false)
  | 38 => ("NumberOfficeModel", "came", "I", false)
  | _ => ("NumberOfficeModel", "found", "I", false)
def zY_NumberOfficeModel : Nat → FieldType := fun k => match k with
  | 0 => .int
  | 1 => .int
  | 2 => .array (.boolean)
  | 3 => .array (.int)
  | 4 => .array (.int)
  | 5 => .array (.int)
  | 6 => .array (.int)
  | 7 => .array (.int)
  | 8 => .array (.short)
  | 9 => .array (.short)
  | 10 => .array (.byte)
  | 11 => .array (.long)
  | 12 => .array (.int)
  | 13 => .array (.byte)
  | 14 => .array (.short)
  | 15 => .array (.int)
  | 16 => .array (.int)
  | 17 => .array (.int)
  | 18 => .array (.int)
  | 19 => .array (.boolean)
  | 20 => .array (.boolean)
  | 21 => .array (.int)
  | 22 => .array (.int)
  | 23 => .array (.int)
  | 24 => .array (.byte)
  | 25 => .array (.byte)
  | 26 => .array (.long)
  | 27 => .array (.int)
  | 28 => .array (.byte)
  | 29 => .array (.boolean)
  | 30 => .array (.int)
  | 31 => .array (.int)
  | 32 => .array (.int)
  | 33 => .array (.int)
  | 34 => .int
  | 35 => .array (.int)
  | 36 => .array (.int)
  | 37 => .int
  | 38 => .int
  | _ => .int
theorem zN_NumberOfficeModel : ∀ a, a < 40 → ∀ b, b < 40 → a ≠ b → (zF_NumberOfficeModel a).2.1 ≠ (zF_NumberOfficeModel b).2.1 := by decide +kernel
theorem zYok_NumberOfficeModel : ∀ k, k < 40 → parseFieldDescriptor (zF_NumberOfficeModel k).2.2.1 = some (zY_NumberOfficeModel k) := by decide +kernel
theorem zin_NumberOfficeModel : ∀ w ∈ u_ws zR_NumberOfficeModel zF_NumberOfficeModel 40, w ∈ ztb := z_inb [1211, 1213, 1215, 1217, 1219, 1221, 1223, 1225, 1227, 1229, 1231, 1233, 1235, 1237, 1239, 1241, 1243, 1245, 1247, 1249, 1251, 1253, 1255, 1257, 1259, 1261, 1263, 1265, 1267, 1269, 1271, 1273, 1275, 1277, 1279, 1281, 1283, 1285, 1287, 1289] (by decide +kernel) (by decide +kernel)
def zcl : List vw_C := [(zR_NumberOffice, zF_NumberOffice, 3), (zR_Branch, zF_Branch, 9), (zR_BranchSeries, zF_BranchSeries, 10), (zR_ArrayList, zF_ArrayList, 3), (zR_Office, zF_Office, 7), (zR_SeriesBook, zF_SeriesBook, 8), (zR_Answer, zF_Answer, 5), (zR_Block, zF_Block, 2), (zR_IllegalStateException, zF_IllegalStateException, 6), (zR_Letter, zF_Letter, 6), (zR_Event, zF_Event, 4), (zR_ListText, zF_ListText, 2), (zR_StringBuilder, zF_StringBuilder, 4), (zR_String, zF_String, 4), (zR_NumberOfficeModel, zF_NumberOfficeModel, 40)]
def zty : List FieldType := [.int, .long, .byte, .boolean, .char, .short, .object "NumberOffice$Branch", .object "NumberOffice$BranchSeries", .object "NumberOffice$SeriesBook", .object "NumberOffice$Answer", .object "java/lang/Object", .object "NumberOffice$Event"]
def zasg : List (Nat × Nat) := [(6, 1), (7, 2), (8, 5), (9, 6), (10, 0), (10, 1), (10, 2), (10, 4), (10, 5), (10, 6), (10, 7), (10, 9), (10, 10), (10, 11), (10, 13), (10, 14), (11, 10)]
